/-! ===== the loop's steps: what they share ===== -/
def lp_G (T : List Nat → Option vv_L) (nf bo np : Nat) (K0 N0 Z0 D0 I0 W0 P0 : Nat → Int32) (post : SX → Prop) (xst xow xin xpa xfi xkn : Int32) (vS pO pX pI fS : Nat → Int32) (st : Nat) : Prop :=
  (∀ q, q < np → ∃ yk, fl_p pO pX pI yk q) ∧
  (∀ st', st < st' → ∀ (xfr xno xsi xan xen xco xrm xac : Int32) (K N Z D Im W P fP fI fU fR fO fA fH fG fN aS qL qR qP : Nat → Int32), rm_I T nf bo np K0 N0 Z0 D0 I0 W0 P0 st' (xst, xow, xin, xpa, xfi, xfr, xno, xsi, xan, xkn, xen, xco, xrm, xac, K, N, Z, D, Im, W, P, vS, pO, pX, pI, fS, fP, fI, fU, fR, fO, fA, fH, fG, fN, aS, qL, qR, qP) → wX_workOut_68 post (1000001 - st') (nI st') xst xow xin xpa xfi xfr xno xsi xan xkn xen xco xrm xac K N Z D Im W P vS pO pX pI fS fP fI fU fR fO fA fH fG fN aS qL qR qP) ∧
  (∀ st', st' < 1000001 → ∀ (xfr xno xsi xan xen xco xrm xac : Int32) (K N Z D Im W P fP fI fU fR fO fA fH fG fN aS qL qR qP : Nat → Int32), rm_E T nf bo np K0 N0 Z0 D0 I0 W0 P0 (xst, xow, xin, xpa, xfi, xfr, xno, xsi, xan, xkn, xen, xco, xrm, xac, K, N, Z, D, Im, W, P, vS, pO, pX, pI, fS, fP, fI, fU, fR, fO, fA, fH, fG, fN, aS, qL, qR, qP) → wX_workOut_68 post (1000001 - st') (nI st') xst xow xin xpa xfi xfr xno xsi xan xkn xen xco xrm xac K N Z D Im W P vS pO pX pI fS fP fI fU fR fO fA fH fG fN aS qL qR qP)
theorem lp_K {T : List Nat → Option vv_L} {nf bo np : Nat} {K0 N0 Z0 D0 I0 W0 P0 : Nat → Int32} {xst xow xin xpa xfi xfr xno xsi xan xkn xen xco xrm xac : Int32} {K N Z D Im W P vS pO pX pI fS fP fI fU fR fO fA fH fG fN aS qL qR qP : Nat → Int32} {post : SX → Prop} {st st' : Nat} (H : lp_G T nf bo np K0 N0 Z0 D0 I0 W0 P0 post xst xow xin xpa xfi xkn vS pO pX pI fS st) (h : st ≤ st') (hi : rm_I T nf bo np K0 N0 Z0 D0 I0 W0 P0 (st' + 1) (xst, xow, xin, xpa, xfi, xfr, xno, xsi, xan, xkn, xen, xco, xrm, xac, K, N, Z, D, Im, W, P, vS, pO, pX, pI, fS, fP, fI, fU, fR, fO, fA, fH, fG, fN, aS, qL, qR, qP)) : rn_K post st' (xst, xow, xin, xpa, xfi, xfr, xno, xsi, xan, xkn, xen, xco, xrm, xac, K, N, Z, D, Im, W, P, vS, pO, pX, pI, fS, fP, fI, fU, fR, fO, fA, fH, fG, fN, aS, qL, qR, qP) :=
  rn_K_i (H.2.1 (st' + 1) (by omega) _ _ _ _ _ _ _ _ _ _ _ _ _ _ _ _ _ _ _ _ _ _ _ _ _ _ _ _ hi)
theorem lp_E {T : List Nat → Option vv_L} {nf bo np : Nat} {K0 N0 Z0 D0 I0 W0 P0 : Nat → Int32} {xst xow xin xpa xfi xfr xno xsi xan xkn xen xco xrm xac : Int32} {K N Z D Im W P vS pO pX pI fS fP fI fU fR fO fA fH fG fN aS qL qR qP : Nat → Int32} {post : SX → Prop} {st st' : Nat} (H : lp_G T nf bo np K0 N0 Z0 D0 I0 W0 P0 post xst xow xin xpa xfi xkn vS pO pX pI fS st) (h : st' < 1000000) (hi : rm_E T nf bo np K0 N0 Z0 D0 I0 W0 P0 (xst, xow, xin, xpa, xfi, xfr, xno, xsi, xan, xkn, xen, xco, xrm, xac, K, N, Z, D, Im, W, P, vS, pO, pX, pI, fS, fP, fI, fU, fR, fO, fA, fH, fG, fN, aS, qL, qR, qP)) : rn_K post st' (xst, xow, xin, xpa, xfi, xfr, xno, xsi, xan, xkn, xen, xco, xrm, xac, K, N, Z, D, Im, W, P, vS, pO, pX, pI, fS, fP, fI, fU, fR, fO, fA, fH, fG, fN, aS, qL, qR, qP) :=
  rn_K_i (H.2.2 (st' + 1) (by omega) _ _ _ _ _ _ _ _ _ _ _ _ _ _ _ _ _ _ _ _ _ _ _ _ _ _ _ _ hi)
/-- what md_X says of the frame behind the one at hand -/
theorem mx_p {V al : Nat → Prop} {g p : Nat} {pa' : List Nat} {bo np n c rm a st : Nat} {xfr xno xsi xen xco xrm xac : Int32} {K N Z D Im W P K0 N0 Z0 D0 I0 W0 P0 pO pX fP fU fR fO fA fH fG : Nat → Int32}
    (h : md_X V al g (p :: pa') bo np n c rm a st xfr xno xsi xen xco xrm xac K N Z D Im W P K0 N0 Z0 D0 I0 W0 P0 pO pX fP fU fR fO fA fH fG) :
    p < g ∧ g < n ∧ n ≤ 600 ∧ fU g = nI p ∧ fA p = nI g ∧ fr_run pO pX fP fG p ∧ ((fR g = 0 ∧ fO p = nI g) ∨ ((fR g = 1 ∨ fR g = 2) ∧ fO p ≠ nI g ∧ fr_ro (fr_o pO fP p) (fR g) (fO p))) := by
  obtain ⟨hg, hn, _⟩ := mx_f h
  obtain ⟨_, _, _, _, hf, _⟩ := h
  obtain ⟨h0, h1, h2, h3, h4, h5, h6⟩ := hf
  obtain ⟨a1, a2, a3, a4, a5⟩ := h2
  obtain ⟨_, _, k⟩ := h1 p (by omega)
  refine ⟨a1, hg, hn, a2, a3, a4, ?_⟩
  rcases k with k | ⟨_, k⟩
  · rw [a3] at k
    exact absurd k (fr_n1 (by omega))
  · rw [a3, nI_clamp (by omega)] at k
    exact k
theorem mx_fo {pO fP : Nat → Int32} {p q oq : Nat} (eP : fP p = nI q) (hq : q < 40) (eO : pO q = nI oq) (ho : oq ≤ 35) : fr_o pO fP p = oq := by
  unfold fr_o
  rw [eP, nI_clamp (by omega), eO, nI_clamp (by omega)]
theorem my_k {pO pX pI yk : Nat → Int32} {q oq : Nat} (kk : Nat) (hk : fl_kk oq = kk) (ho : oq ≤ 35) (h : fl_p pO pX pI yk q) (eO : pO q = nI oq) : yk q = nI kk := by
  obtain ⟨o, h1, h2, h3, _⟩ := h
  have : o = oq := (nI_eq (by omega) (by omega)).mp (h2.symm.trans eO)
  subst this
  rw [h3, hk]
theorem vx_k {V : Nat → Prop} {K N Z D Im W P : Nat → Int32} (h : vv_ox V K N Z D Im W P) {s : Nat} (hs : V s) : s < 653 ∧ ∃ κ, κ ≤ 5 ∧ K s = nI κ := by
  obtain ⟨h6, h⟩ := h s hs
  refine ⟨h6, ?_⟩
  rcases h with ⟨k, h1, h2, _⟩ | ⟨k, z, d, h1, h2, _⟩
  · exact ⟨k, by omega, h2⟩
  · exact ⟨k, by omega, h2⟩
/-- a pair of like values, X's kind known -/
theorem my_v {V : Nat → Prop} {K N Z D Im W P : Nat → Int32} {mk pd : Nat} {o l kS d : Nat → Int32} {pl : Nat → Int64} (hx : vv_ox V K N Z D Im W P) (hy : vv_cy mk pd o l pl) {s : Int32} {w : Int64} {n κ : Nat} (h : vv_R V K N Z D P mk o l kS d pl s w) (es : s = nI n) (hn : n < 653) (eK : K n = nI κ) (hκ : κ ≤ 5) :
    ∃ x, w = yy_t κ x ∧ ((κ < 4 ∧ N n = x ∧ Z n = 0 ∧ D n = 0) ∨ (4 ≤ κ ∧ ∃ j a b, j < mk ∧ x = nI j ∧ o j = nI a ∧ l j = nI b ∧ b ≤ 10 ∧ a + b ≤ pd ∧ N n = kS j ∧ Z n = nI b ∧ D n = d j ∧ ∀ i, i < b → vv_R V K N Z D P mk o l kS d pl (P (n * 10 + i)) (pl (a + i)))) := by
  obtain ⟨m, κ', x, e1, e2, e3, e4, e5, e6, e7⟩ := vv_R_is hx hy h
  have : m = n := (nI_eq (by omega) (by omega)).mp (e1.symm.trans es)
  subst this
  have : κ' = κ := (nI_eq (by omega) (by omega)).mp (e6.symm.trans eK)
  subst this
  exact ⟨x, e5, e7⟩
theorem e31 : (3 : Int32) - 1 = 2 := by decide
theorem e21 : (2 : Int32) - 1 = 1 := by decide
theorem e11 : (1 : Int32) - 1 = 0 := by decide
/-- an answer goes outwards, and the frame keeps its count -/
theorem rm_pass0 {p : Nat} {pa' : List Nat} {T : List Nat → Option vv_L} {nf bo np : Nat} {K0 N0 Z0 D0 I0 W0 P0 : Nat → Int32} {xst xow xin xpa xfi xfr xno xsi xan xkn xen xco xrm xac : Int32} {K N Z D Im W P vS pO pX pI fS fP fI fU fR fO fA fH fG fN aS qL qR qP : Nat → Int32} {st : Nat} {V al : Nat → Prop} {g : Nat} {n c rm a : Nat}
    (hX : md_X V al g (p :: pa') bo np n c rm a st xfr xno xsi xen xco xrm xac K N Z D Im W P K0 N0 Z0 D0 I0 W0 P0 pO pX fP fU fR fO fA fH fG) (hv : mv_X V n xsi xan pO fP fI fH fN) (ha : ma_X V a aS)
    (hM : ∀ (mk0 pd0 : Nat) (v0 : SY), kn_F T np nf pO pX pI fS mk0 pd0 v0 → rm_M V (p :: pa') g np n c rm a st xsi xan K N Z D W P pO pX pI fP fI fO fA fH fG fN aS mk0 pd0 v0) (es : xsi = 1) (n16 : fr_o pO fP p ≠ 16) (n35 : fr_o pO fP p ≠ 35) {xan' : Int32} (hxv : ∃ s, xan' = nI s ∧ V s)
    (hYw : ∀ (mk0 pd0 mk pd nd : Nat) (yhe yvm : Int32) (yin : Int64) (yfi yde yic : Int32) (ys : Nat → Int64) (yk yn yp yf iK iN : Nat → Int32) (o0 l0 kS0 d0 : Nat → Int32) (pl0 : Nat → Int64) (yma ypo yap yas yto : Int32) (yan : Int64) (yco yti yna yac yen : Int32) (o l kS d : Nat → Int32) (pl : Nat → Int64) (yo : Nat → Int32) (yi : Nat → Int64) (yw ya y1 y2 : Nat → Int32) (yK : Nat → Int64) (yW : Nat → Int32) (yL : Nat → Int64) (yq nm : Nat → Int32) (nv : Nat → Int64) (no : Nat → Int32) (yA lf rt : Nat → Int64), md_Y V (p :: pa') g np n c rm a st mk pd nd mk0 pd0 xsi xan K N Z D W P pO pX pI fP fI fO fA fH fG fN aS yma ypo yap yas yto yan yco yti yna yac yen o l kS d pl yk yn yp yo yi yw ya y1 y2 yK yW yL yq nm nv no yA o0 l0 kS0 d0 pl0 → ∀ Q : SY → Prop, (∀ (w : Int64), vv_R V K N Z D P mk o l kS d pl xan' w → Q (yma, ypo, yhe, yvm, yin, yfi, yde, yap, (nI pa'.length), 0, w, yco, yti, yna, yac, yen, yic, o, l, kS, d, pl, ys, yk, yn, yp, yf, yo, yi, yw, ya, y1, y2, yK, yW, yL, yq, nm, nv, no, yA, lf, rt, iK, iN)) → wpY_goOn Q (yma, ypo, yhe, yvm, yin, yfi, yde, yap, yas, yto, yan, yco, yti, yna, yac, yen, yic, o, l, kS, d, pl, ys, yk, yn, yp, yf, yo, yi, yw, ya, y1, y2, yK, yW, yL, yq, nm, nv, no, yA, lf, rt, iK, iN) (nI p)) : rm_I T nf bo np K0 N0 Z0 D0 I0 W0 P0 (st + 1) (xst, xow, xin, xpa, xfi, xfr, (nI p), 1, xan', xkn, xen, xco, xrm, xac, K, N, Z, D, Im, W, P, vS, pO, pX, pI, fS, fP, fI, fU, fR, fO, fA, fH, fG, fN, aS, qL, qR, qP) := by
  have hX0 := hX
  obtain ⟨⟨x1, x2, x3, x4, x5, x6, x7, x8, x9, x10⟩, hs, hh, hb, hf, hr, hG, hpot⟩ := hX
  have hpn : p < n := by
    have := fr_pa_lt _ _ hf.2.2.1 p List.mem_cons_self
    have := hf.2.2.2.2.1 g (hf.2.2.2.1 g List.mem_cons_self)
    omega
  obtain ⟨gv, e1, e2⟩ := hG p hpn
  have key : rm_I T nf bo np K0 N0 Z0 D0 I0 W0 P0 (st + 1) (xst, xow, xin, xpa, xfi, xfr, (nI p), 1, xan', xkn, xen, xco, xrm, xac, K, N, Z, D, Im, W, P, vS, pO, pX, pI, fS, fP, fI, fU, fR, fO, fA, fH, (upd fG p (nI gv)), fN, aS, qL, qR, qP) := rm_pass hX0 hv ha hM es n16 n35 (by omega) (fun z => e1.trans z) hxv (fun mk0 pd0 mk pd nd yhe yvm yin yfi yde yic ys yk yn yp yf iK iN o0 l0 kS0 d0 pl0 yma ypo yap yas yto yan yco yti yna yac yen o l kS d pl yo yi yw ya y1 y2 yK yW yL yq nm nv no yA lf rt hY Q hQ => hYw mk0 pd0 mk pd nd yhe yvm yin yfi yde yic ys yk yn yp yf iK iN o0 l0 kS0 d0 pl0 yma ypo yap yas yto yan yco yti yna yac yen o l kS d pl yo yi yw ya y1 y2 yK yW yL yq nm nv no yA lf rt hY Q (fun w hw => by
    obtain ⟨⟨b1, b2, b3, b4, b5, b6, b7, b8, b9, b10, b11⟩, hfl, hen, hhy, hby, hfr, han, hq0, hq1, hz1, hz2, hz3⟩ := hY
    obtain ⟨t1, t2, t3, t4, t5⟩ := hfr p hpn
    have := hQ (yW p) w hw (by rw [← e1]; exact fr_S_up (fun _ _ w => w) (fun _ w => w) (fun _ _ w => w) (Nat.le_succ _) t5)
    rw [upd_id] at this
    exact this))
  rw [← e1, upd_id] at key
  exact key
/-! ===== the whole filter ===== -/
theorem cq_root {post : SX → Prop} {T : List Nat → Option vv_L} {nf bo np : Nat} {K0 N0 Z0 D0 I0 W0 P0 : Nat → Int32} {xst xow xin xpa xfi xfr xno xsi xan xkn xen xco xrm xac : Int32} {K N Z D Im W P vS pO pX pI fS fP fI fU fR fO fA fH fG fN aS qL qR qP : Nat → Int32} {st : Nat} {V al : Nat → Prop} {g : Nat} {n c rm a : Nat}
    (hX : md_X V al g [] bo np n c rm a st xfr xno xsi xen xco xrm xac K N Z D Im W P K0 N0 Z0 D0 I0 W0 P0 pO pX fP fU fR fO fA fH fG) (hv : mv_X V n xsi xan pO fP fI fH fN) (ha : ma_X V a aS)
    (hM : ∀ (mk0 pd0 : Nat) (v0 : SY), kn_F T np nf pO pX pI fS mk0 pd0 v0 → rm_M V [] g np n c rm a st xsi xan K N Z D W P pO pX pI fP fI fO fA fH fG fN aS mk0 pd0 v0)
    (H : lp_G T nf bo np K0 N0 Z0 D0 I0 W0 P0 post xst xow xin xpa xfi xkn vS pO pX pI fS st) (es : xsi = 1 ∨ xsi = 2 ∨ xsi = 3) : wX_workOut_68 post (1000001 - st) (nI st) xst xow xin xpa xfi xfr xno xsi xan xkn xen xco xrm xac K N Z D Im W P vS pO pX pI fS fP fI fU fR fO fA fH fG fN aS qL qR qP := by
  obtain ⟨hg, hn6, hst, hlen, _⟩ := mx_f hX
  have hX0 := hX
  obtain ⟨⟨x1, x2, x3, x4, x5, x6, x7, x8, x9, x10⟩, hs, hh, hb, hf, hr, hG, hpot⟩ := hX
  have g0 : g = 0 := hf.2.2.1.1
  have hU : fU g = -1 := by rw [g0]; exact hf.2.2.1.2
  refine xs_whole (by omega) x3 es x2 (by omega) hU (xh_whole x6 (by omega) (fun e => ?_) (fun e => ?_) (fun e ne => ?_) (fun e ee => ?_) es)
  · exact lp_E H (by omega) (rm_root1 hX0 hv ha hM (Or.inl ⟨e, rfl⟩))
  · exact lp_E H (by omega) (rm_root1 hX0 hv ha hM (Or.inr ⟨e, rfl⟩))
  · exact lp_K H (Nat.le_refl _) (rm_root0 hX0 hv ha hM e ne)
  · exact lp_E H (by omega) (rm_root20 hX0 hv ha hM e ee)
/-! ===== ends and errors ===== -/
/-- Y: the first filter within has ended or failed -/
theorem my_e0 {yma ypo yhe yvm : Int32} {yin : Int64} {yfi yde yap yas yto : Int32} {yan : Int64} {yco yti yna yac yen yic : Int32} {o l kS d : Nat → Int32} {pl ys : Nat → Int64} {yk yn yp yf yo : Nat → Int32} {yi : Nat → Int64} {yw ya y1 y2 : Nat → Int32} {yK : Nat → Int64} {yW : Nat → Int32} {yL : Nat → Int64} {yq nm : Nat → Int32} {nv : Nat → Int64} {no : Nat → Int32} {yA lf rt : Nat → Int64} {iK iN : Nat → Int32} {post : SY → Prop} {p q oq a : Nat} (hg : p < 600) (eo : yo p = nI q) (hq : q < 40) (ek : yk q = nI (fl_kk oq)) (ho : oq = 19 ∨ oq = 20 ∨ oq = 21 ∨ oq = 23 ∨ oq = 24 ∨ oq = 25 ∨ oq = 26 ∨ oq = 27 ∨ oq = 28 ∨ oq = 29 ∨ oq = 30 ∨ oq = 31 ∨ oq = 33 ∨ oq = 34) (e2 : 21 ≤ oq → y2 p = -1)
    (ea : yas = nI (a + 1)) (et : ¬ yto = 0) (hp : post (yma, ypo, yhe, yvm, yin, yfi, yde, yap, (nI a), yto, 0, yco, yti, yna, yac, yen, yic, o, l, kS, d, pl, ys, yk, yn, yp, yf, yo, yi, yw, ya, y1, y2, yK, yW, yL, yq, nm, nv, no, yA, lf, rt, iK, iN)) : wpY_goOn post (yma, ypo, yhe, yvm, yin, yfi, yde, yap, yas, yto, yan, yco, yti, yna, yac, yen, yic, o, l, kS, d, pl, ys, yk, yn, yp, yf, yo, yi, yw, ya, y1, y2, yK, yW, yL, yq, nm, nv, no, yA, lf, rt, iK, iN) (nI p) := by
  rcases ho with e | e | e | e | e | e | e | e | e | e | e | e | e | e <;> subst e
  · exact yg_23e hg eo hq ek ea et hp
  · exact yg_24e hg eo hq ek ea et hp
  · exact yf_30e hg eo hq ek (e2 (by omega)) ea et hp
  · exact yf_32e hg eo hq ek (e2 (by omega)) ea et hp
  · exact yf_33e hg eo hq ek (e2 (by omega)) ea et hp
  · exact yf_34e hg eo hq ek (e2 (by omega)) ea et hp
  · exact yf_35e hg eo hq ek (e2 (by omega)) ea et hp
  · exact yf_36e hg eo hq ek (e2 (by omega)) ea et hp
  · exact yf_37e hg eo hq ek (e2 (by omega)) ea et hp
  · exact yf_38e hg eo hq ek (e2 (by omega)) ea et hp
  · exact yf_39e hg eo hq ek (e2 (by omega)) ea et hp
  · exact yf_40e hg eo hq ek (e2 (by omega)) ea et hp
  · exact yf_42e hg eo hq ek (e2 (by omega)) ea et hp
  · exact yf_50e hg eo hq ek (e2 (by omega)) ea et hp
/-- what Y has of a filter whose first is asked -/
theorem my_a0 {R : Int32 → Int64 → Prop} {E : Int32 → Nat → Prop} {Dp : Int32 → Nat → Nat → Prop} {oq st : Nat} {x fi gi ac ou he ya y1 y2 yW : Int32} {yK yL : Int64} (h : fr_S R E Dp oq x st fi gi ac ou he ya y1 y2 yW yK yL) (h1 : 21 ≤ oq) (h2 : oq ≤ 34) (e : ac = ou) : y2 = -1 ∧ y1 = ou := by
  obtain ⟨a1, a2⟩ := h.2.2.2.2.2.2.1 h1 h2
  rcases a2 with ⟨b1, _⟩ | ⟨_, _, _, b⟩
  · exact ⟨b1, a1⟩
  · exact absurd e b
/-- and of one whose second is -/
theorem my_a1 {R : Int32 → Int64 → Prop} {E : Int32 → Nat → Prop} {Dp : Int32 → Nat → Nat → Prop} {oq st : Nat} {x fi gi ac ou he ya y1 y2 yW : Int32} {yK yL : Int64} (h : fr_S R E Dp oq x st fi gi ac ou he ya y1 y2 yW yK yL) (h1 : 21 ≤ oq) (h2 : oq ≤ 34) (e : ac ≠ ou) : y2 = ac ∧ y1 = ou ∧ ou ≠ -1 := by
  obtain ⟨a1, a2⟩ := h.2.2.2.2.2.2.1 h1 h2
  rcases a2 with ⟨_, b⟩ | ⟨b1, _, b2, _⟩
  · exact absurd b e
  · exact ⟨b1, a1, b2⟩
theorem fk_r {oq : Nat} (h1 : 21 ≤ oq) (h2 : oq ≤ 34) : 30 ≤ fl_kk oq ∧ fl_kk oq ≤ 50 ∧ (oq < 34 → fl_kk oq = oq + 9) ∧ (oq = 34 → fl_kk oq = 50) := by
  unfold fl_kk
  rw [if_neg (show ¬ oq < 16 by omega), if_neg (show ¬ oq < 21 by omega)]
  by_cases e : oq < 34
  · rw [if_pos e]; exact ⟨by omega, by omega, fun _ => rfl, fun w => absurd w (by omega)⟩
  · rw [if_neg e]; exact ⟨by omega, by omega, fun w => absurd w e, fun w => by omega⟩
/-- an error goes outwards -/
theorem cq_err {p : Nat} {pa' : List Nat} {post : SX → Prop} {T : List Nat → Option vv_L} {nf bo np : Nat} {K0 N0 Z0 D0 I0 W0 P0 : Nat → Int32} {xst xow xin xpa xfi xfr xno xsi xan xkn xen xco xrm xac : Int32} {K N Z D Im W P vS pO pX pI fS fP fI fU fR fO fA fH fG fN aS qL qR qP : Nat → Int32} {st : Nat} {V al : Nat → Prop} {g : Nat} {n c rm a : Nat}
    (hX : md_X V al g (p :: pa') bo np n c rm a st xfr xno xsi xen xco xrm xac K N Z D Im W P K0 N0 Z0 D0 I0 W0 P0 pO pX fP fU fR fO fA fH fG) (hv : mv_X V n xsi xan pO fP fI fH fN) (ha : ma_X V a aS)
    (hM : ∀ (mk0 pd0 : Nat) (v0 : SY), kn_F T np nf pO pX pI fS mk0 pd0 v0 → rm_M V (p :: pa') g np n c rm a st xsi xan K N Z D W P pO pX pI fP fI fO fA fH fG fN aS mk0 pd0 v0)
    (H : lp_G T nf bo np K0 N0 Z0 D0 I0 W0 P0 post xst xow xin xpa xfi xkn vS pO pX pI fS st) {q : Nat} (eP : fP p = nI q) (hqn : q < np) (hq : q < 40) {oq : Nat} (ho : oq ≤ 35) (h16 : 16 ≤ oq) (eO : pO q = nI oq) (es : xsi = 3) (hn : ¬ (fR g = 0 ∧ (oq = 17 ∨ oq = 32))) : wX_workOut_68 post (1000001 - st) (nI st) xst xow xin xpa xfi xfr xno xsi xan xkn xen xco xrm xac K N Z D Im W P vS pO pX pI fS fP fI fU fR fO fA fH fG fN aS qL qR qP := by
  subst es
  obtain ⟨hpg, hgn, hn6, hU, hA, hrun, hro⟩ := mx_p hX
  obtain ⟨_, _, hst, hlen, _⟩ := mx_f hX
  have hlen2 : pa'.length + 2 ≤ 40 := by
    have := hlen
    rw [List.length_cons] at this
    omega
  have hX0 := hX
  obtain ⟨⟨x1, x2, x3, x4, x5, x6, x7, x8, x9, x10⟩, hs, hh, hb, hf, hr, hG, hpot⟩ := hX
  have hpn : p < n := by omega
  have hfo := mx_fo eP hq eO (by omega)
  refine xs_inner (by omega) x3 (Or.inr (Or.inr rfl)) x2 (by omega) hU (by omega) (xh_err x2 (by omega) hU (by omega) rfl eP hq eO ho rfl hn ?_)
  refine lp_K H (Nat.le_refl _) (rm_up hX0 hv ha hM (Or.inr (Or.inr rfl)) (Or.inr rfl) (fun mk0 pd0 mk pd nd yhe yvm yin yfi yde yic ys yk yn yp yf iK iN o0 l0 kS0 d0 pl0 yma ypo yap yas yto yan yco yti yna yac yen o l kS d pl yo yi yw ya y1 y2 yK yW yL yq nm nv no yA lf rt hY Q hQ => ?_))
  obtain ⟨⟨b1, b2, b3, b4, b5, b6, b7, b8, b9, b10, b11⟩, hfl, hen, hhy, hby, hfr, han, hq0, hq1, hz1, hz2, hz3⟩ := hY
  obtain ⟨t1, t2, t3, t4, t5⟩ := hfr p hpn
  obtain ⟨ey, eq⟩ := hq1 (by decide)
  rw [List.length_cons] at ey
  have eyo := t1.symm.trans eP
  rw [hfo] at t5
  have et := hz3 rfl
  subst et
  rw [e31] at hQ
  have ek := my_k _ rfl ho (hfl q hqn) eO
  rcases hro with ⟨r0, rO⟩ | ⟨r1, rO, r21, _⟩
  · have hAO : fA p = fO p := hA.trans rO.symm
    have hn' : ¬ (oq = 17 ∨ oq = 32) := fun w => hn ⟨r0, w⟩
    by_cases e16 : oq = 16
    · subst e16; exact yg_all2 (by omega) eyo hq ek ey rfl (hQ 0)
    by_cases e18 : oq = 18
    · subst e18
      obtain ⟨gg, m, _, w2, _⟩ := t5.2.2.2.2.2.1 rfl
      exact yg_first (by omega) eyo hq ek ey w2 (fun w => absurd w (by decide)) (fun _ => hQ _)
    by_cases e22 : oq = 22
    · subst e22; exact yf_31t (by omega) eyo hq ek (my_a0 t5 (by omega) (by omega) hAO).1 ey (by decide) (hQ _)
    by_cases e35 : oq = 35
    · subst e35; exact yo_2 (by omega) eyo hq ek ey rfl (hQ 0)
    exact my_e0 (oq := oq) (by omega) eyo hq ek (by omega) (fun w => (my_a0 t5 (by omega) (by omega) hAO).1) ey (by decide) (hQ 0)
  · rw [hfo] at r21
    by_cases e35 : oq = 35
    · subst e35; exact yo_2 (by omega) eyo hq ek ey rfl (hQ 0)
    · obtain ⟨f1, f2, _⟩ := fk_r (oq := oq) (by omega) (by omega)
      exact yh_2 (f := g) (by omega) eyo hq ek f1 f2 ((my_a1 t5 (by omega) (by omega) (fun e => rO (e.symm.trans hA))).1.trans hA) (by omega) ey rfl (hQ 0)
