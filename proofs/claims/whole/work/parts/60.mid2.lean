/-! ===== the lockstep, for all states of Y at once ===== -/
/-- X's slots in its frames are whole values -/
def mv_X (V : Nat → Prop) (n : Nat) (xsi xan : Int32) (pO fP fI fH fN : Nat → Int32) : Prop :=
  (xsi = 1 → ∃ s, xan = nI s ∧ V s) ∧ ∀ f, f < n → (∃ s, fI f = nI s ∧ V s) ∧ (fr_o pO fP f ≠ 16 → ∃ s, fH f = nI s ∧ V s) ∧ ∀ x, x < 3 → ∃ s, fN (f * 3 + x) = nI s ∧ V s
/-- and in its answers -/
def ma_X (V : Nat → Prop) (a : Nat) (aS : Nat → Int32) : Prop := ∀ i, i < a → ∃ s, aS i = nI s ∧ V s
theorem ma_up {V V' : Nat → Prop} {a : Nat} {aS : Nat → Int32} (h : ma_X V a aS) (hV : ∀ s, V s → V' s) : ma_X V' a aS := fun i hi => by
  obtain ⟨s, s1, s2⟩ := h i hi
  exact ⟨s, s1, hV s s2⟩
/-- Y's runs beside X's: whoever shows Y's loop at every like state has shown the run -/
def rm_M (V : Nat → Prop) (pa : List Nat) (g np n c rm a st : Nat) (xsi xan : Int32) (K N Z D W P pO pX pI fP fI fO fA fH fG fN aS : Nat → Int32) (mk0 pd0 : Nat) (v0 : SY) : Prop :=
  match v0 with
  | (yma0, ypo0, yhe0, yvm0, yin0, yfi0, yde0, yap0, yas0, yto0, yan0, yco0, yti0, yna0, yac0, yen0, yic0, o0, l0, kS0, d0, pl0, ys0, yk0, yn0, yp0, yf0, yo0, yi0, yw0, ya0, y10, y20, yK0, yW0, yL0, yq0, nm0, nv0, no0, yA0, lf0, rt0, iK0, iN0) =>
    (xsi = 0 → ∀ post : SY → Prop, (∃ m, ∀ (mk pd nd : Nat) (yma ypo yap yas yto : Int32) (yan : Int64) (yco yti yna yac yen : Int32) (o l kS d : Nat → Int32) (pl : Nat → Int64) (yo : Nat → Int32) (yi : Nat → Int64) (yw ya y1 y2 : Nat → Int32) (yK : Nat → Int64) (yW : Nat → Int32) (yL : Nat → Int64) (yq nm : Nat → Int32) (nv : Nat → Int64) (no : Nat → Int32) (yA lf rt : Nat → Int64),
      md_Y V pa g np n c rm a st mk pd nd mk0 pd0 xsi xan K N Z D W P pO pX pI fP fI fO fA fH fG fN aS yma ypo yap yas yto yan yco yti yna yac yen o l kS d pl yk0 yn0 yp0 yo yi yw ya y1 y2 yK yW yL yq nm nv no yA o0 l0 kS0 d0 pl0 →
      wY_work_79 post (nI mk0) (nI pd0) m 1 yma ypo yhe0 yvm0 yin0 yfi0 yde0 yap yas yto yan yco yti yna yac yen yic0 o l kS d pl ys0 yk0 yn0 yp0 yf0 yo yi yw ya y1 y2 yK yW yL yq nm nv no yA lf rt iK0 iN0) → wpY_work post v0) ∧
    (xsi ≠ 0 → ∀ post : SY → Prop, (∃ m, ∀ (mk pd nd : Nat) (yma ypo yap yas yto : Int32) (yan : Int64) (yco yti yna yac yen : Int32) (o l kS d : Nat → Int32) (pl : Nat → Int64) (yo : Nat → Int32) (yi : Nat → Int64) (yw ya y1 y2 : Nat → Int32) (yK : Nat → Int64) (yW : Nat → Int32) (yL : Nat → Int64) (yq nm : Nat → Int32) (nv : Nat → Int64) (no : Nat → Int32) (yA lf rt : Nat → Int64),
      md_Y V pa g np n c rm a st mk pd nd mk0 pd0 xsi xan K N Z D W P pO pX pI fP fI fO fA fH fG fN aS yma ypo yap yas yto yan yco yti yna yac yen o l kS d pl yk0 yn0 yp0 yo yi yw ya y1 y2 yK yW yL yq nm nv no yA o0 l0 kS0 d0 pl0 →
      wY_work_146 post (wY_work_79 post (nI mk0) (nI pd0) m) (nI mk0) (nI pd0) 0 yma ypo yhe0 yvm0 yin0 yfi0 yde0 yap yas yto yan yco yti yna yac yen yic0 o l kS d pl ys0 yk0 yn0 yp0 yf0 yo yi yw ya y1 y2 yK yW yL yq nm nv no yA lf rt iK0 iN0) → wpY_work post v0)
def rm_I (T : List Nat → Option vv_L) (nf bo np : Nat) (K0 N0 Z0 D0 I0 W0 P0 : Nat → Int32) (st : Nat) (u : SX) : Prop :=
  match u with
  | (xst, xow, xin, xpa, xfi, xfr, xno, xsi, xan, xkn, xen, xco, xrm, xac, K, N, Z, D, Im, W, P, vS, pO, pX, pI, fS, fP, fI, fU, fR, fO, fA, fH, fG, fN, aS, qL, qR, qP) => ∃ (V al : Nat → Prop) (g : Nat) (pa : List Nat) (n c rm a : Nat), md_X V al g pa bo np n c rm a st xfr xno xsi xen xco xrm xac K N Z D Im W P K0 N0 Z0 D0 I0 W0 P0 pO pX fP fU fR fO fA fH fG ∧ mv_X V n xsi xan pO fP fI fH fN ∧ ma_X V a aS ∧
    ∀ (mk0 pd0 : Nat) (v0 : SY), kn_F T np nf pO pX pI fS mk0 pd0 v0 → rm_M V pa g np n c rm a st xsi xan K N Z D W P pO pX pI fP fI fO fA fH fG fN aS mk0 pd0 v0
/-- Y's runs, ended as X's -/
def rm_N (V : Nat → Prop) (a : Nat) (xen xco xac : Int32) (K N Z D P aS : Nat → Int32) (mk0 pd0 : Nat) (v0 : SY) : Prop :=
  match v0 with
  | (yma0, ypo0, yhe0, yvm0, yin0, yfi0, yde0, yap0, yas0, yto0, yan0, yco0, yti0, yna0, yac0, yen0, yic0, o0, l0, kS0, d0, pl0, ys0, yk0, yn0, yp0, yf0, yo0, yi0, yw0, ya0, y10, y20, yK0, yW0, yL0, yq0, nm0, nv0, no0, yA0, lf0, rt0, iK0, iN0) => ∀ post : SY → Prop, (∀ (mk pd : Nat) (yma ypo yap yas yto : Int32) (yan : Int64) (yco yti yna yac yen : Int32) (o l kS d : Nat → Int32) (pl : Nat → Int64) (yo : Nat → Int32) (yi : Nat → Int64) (yw ya y1 y2 : Nat → Int32) (yK : Nat → Int64) (yW : Nat → Int32) (yL : Nat → Int64) (yq nm : Nat → Int32) (nv : Nat → Int64) (no : Nat → Int32) (yA lf rt : Nat → Int64),
    yen = xen ∧ yco = xco ∧ yac = xac ∧ vv_cy mk pd o l pl ∧ (∀ j, j < mk0 → o j = o0 j ∧ l j = l0 j ∧ kS j = kS0 j ∧ d j = d0 j) ∧ (∀ i, i < pd0 → pl i = pl0 i) ∧ (∀ i, i < a → vv_R V K N Z D P mk o l kS d pl (aS i) (yA i)) →
    post ((nI mk0), (nI pd0), yhe0, yvm0, yin0, yfi0, yde0, yap, yas, yto, yan, yco, yti, yna, yac, yen, yic0, o, l, kS, d, pl, ys0, yk0, yn0, yp0, yf0, yo, yi, yw, ya, y1, y2, yK, yW, yL, yq, nm, nv, no, yA, lf, rt, iK0, iN0)) → wpY_work post v0
def rm_E (T : List Nat → Option vv_L) (nf bo np : Nat) (K0 N0 Z0 D0 I0 W0 P0 : Nat → Int32) (u : SX) : Prop :=
  match u with
  | (xst, xow, xin, xpa, xfi, xfr, xno, xsi, xan, xkn, xen, xco, xrm, xac, K, N, Z, D, Im, W, P, vS, pO, pX, pI, fS, fP, fI, fU, fR, fO, fA, fH, fG, fN, aS, qL, qR, qP) => ¬ xen = -1 ∧ ∃ (V : Nat → Prop) (a : Nat), vv_ox V K N Z D Im W P ∧ (∀ s, V s → s < bo ∨ 53 ≤ s) ∧ vv_eq (fun s => s < 53) K0 N0 Z0 D0 I0 W0 P0 K N Z D Im W P ∧ xac = nI a ∧ a ≤ 20 ∧ ma_X V a aS ∧
    ∀ (mk0 pd0 : Nat) (v0 : SY), kn_F T np nf pO pX pI fS mk0 pd0 v0 → rm_N V a xen xco xac K N Z D P aS mk0 pd0 v0
/-! one turn of Y's loop -/
theorem ct_F {yma ypo yhe yvm : Int32} {yin : Int64} {yfi yde yap yas yto : Int32} {yan : Int64} {yco yti yna yac yen yic : Int32} {o l kS d : Nat → Int32} {pl ys : Nat → Int64} {yk yn yp yf yo : Nat → Int32} {yi : Nat → Int64} {yw ya y1 y2 : Nat → Int32} {yK : Nat → Int64} {yW : Nat → Int32} {yL : Nat → Int64} {yq nm : Nat → Int32} {nv : Nat → Int64} {no : Nat → Int32} {yA lf rt : Nat → Int64} {iK iN : Nat → Int32} {post : SY → Prop} {mk0 pd0 m a g : Nat} (en : yen = -1000000004) (ea : yas = nI (a + 1)) (ha : a < 600) (eq : yq a = nI g)
    (hs : wpY_start (fun u => match u with | (yma', ypo', yhe', yvm', yin', yfi', yde', yap', yas', yto', yan', yco', yti', yna', yac', yen', yic', o', l', kS', d', pl', ys', yk', yn', yp', yf', yo', yi', yw', ya', y1', y2', yK', yW', yL', yq', nm', nv', no', yA', lf', rt', iK', iN') => wY_work_132 post (wY_work_79 post (nI mk0) (nI pd0) m) (nI mk0) (nI pd0) yas yma' ypo' yhe' yvm' yin' yfi' yde' yap' yas' yto' yan' yco' yti' yna' yac' yen' yic' o' l' kS' d' pl' ys' yk' yn' yp' yf' yo' yi' yw' ya' y1' y2' yK' yW' yL' yq' nm' nv' no' yA' lf' rt' iK' iN') (yma, ypo, yhe, yvm, yin, yfi, yde, yap, yas, yto, yan, yco, yti, yna, yac, yen, yic, o, l, kS, d, pl, ys, yk, yn, yp, yf, yo, yi, yw, ya, y1, y2, yK, yW, yL, yq, nm, nv, no, yA, lf, rt, iK, iN) (nI g)) : wY_work_79 post (nI mk0) (nI pd0) (m + 1) 1 yma ypo yhe yvm yin yfi yde yap yas yto yan yco yti yna yac yen yic o l kS d pl ys yk yn yp yf yo yi yw ya y1 y2 yK yW yL yq nm nv no yA lf rt iK iN := by
  unfold wY_work_79
  rw [show yas - 1 = nI a by rw [ea, cr_as], nI_clamp (show a < 2 ^ 31 by omega), eq]
  exact br_t en (br_f (by decide) ⟨vp_in_nI (by omega) (by omega), hs⟩)
theorem ct_T {yma ypo yhe yvm : Int32} {yin : Int64} {yfi yde yap yas yto : Int32} {yan : Int64} {yco yti yna yac yen yic : Int32} {o l kS d : Nat → Int32} {pl ys : Nat → Int64} {yk yn yp yf yo : Nat → Int32} {yi : Nat → Int64} {yw ya y1 y2 : Nat → Int32} {yK : Nat → Int64} {yW : Nat → Int32} {yL : Nat → Int64} {yq nm : Nat → Int32} {nv : Nat → Int64} {no : Nat → Int32} {yA lf rt : Nat → Int64} {iK iN : Nat → Int32} {post : SY → Prop} {mk0 pd0 m a g : Nat} (en : yen = -1000000004) (ht : yti = 0) (ea : yas = nI (a + 1)) (ha : a < 600) (eq : yq a = nI g)
    (hs : wpY_goOn (fun u => match u with | (yma', ypo', yhe', yvm', yin', yfi', yde', yap', yas', yto', yan', yco', yti', yna', yac', yen', yic', o', l', kS', d', pl', ys', yk', yn', yp', yf', yo', yi', yw', ya', y1', y2', yK', yW', yL', yq', nm', nv', no', yA', lf', rt', iK', iN') => wY_work_132 post (wY_work_79 post (nI mk0) (nI pd0) m) (nI mk0) (nI pd0) yas yma' ypo' yhe' yvm' yin' yfi' yde' yap' yas' yto' yan' yco' yti' yna' yac' yen' yic' o' l' kS' d' pl' ys' yk' yn' yp' yf' yo' yi' yw' ya' y1' y2' yK' yW' yL' yq' nm' nv' no' yA' lf' rt' iK' iN') (yma, ypo, yhe, yvm, yin, yfi, yde, yap, yas, yto, yan, yco, yti, yna, yac, yen, yic, o, l, kS, d, pl, ys, yk, yn, yp, yf, yo, yi, yw, ya, y1, y2, yK, yW, yL, yq, nm, nv, no, yA, lf, rt, iK, iN) (nI g)) : wY_work_146 post (wY_work_79 post (nI mk0) (nI pd0) (m + 1)) (nI mk0) (nI pd0) 0 yma ypo yhe yvm yin yfi yde yap yas yto yan yco yti yna yac yen yic o l kS d pl ys yk yn yp yf yo yi yw ya y1 y2 yK yW yL yq nm nv no yA lf rt iK iN := by
  unfold wY_work_146
  refine br_t ht (br_f (by rw [ea]; exact nI_ne0 (by omega) (by omega)) ?_)
  unfold wY_work_79
  rw [show yas - 1 = nI a by rw [ea, cr_as], nI_clamp (show a < 2 ^ 31 by omega), eq]
  exact br_t en (br_t rfl ⟨vp_in_nI (by omega) (by omega), hs⟩)
/-- behind the turn: told -/
theorem ct_told {yma ypo yhe yvm : Int32} {yin : Int64} {yfi yde yap yas yto : Int32} {yan : Int64} {yco yti yna yac yen yic : Int32} {o l kS d : Nat → Int32} {pl ys : Nat → Int64} {yk yn yp yf yo : Nat → Int32} {yi : Nat → Int64} {yw ya y1 y2 : Nat → Int32} {yK : Nat → Int64} {yW : Nat → Int32} {yL : Nat → Int64} {yq nm : Nat → Int32} {nv : Nat → Int64} {no : Nat → Int32} {yA lf rt : Nat → Int64} {iK iN : Nat → Int32} {post : SY → Prop} {mk0 pd0 m a : Nat} {b : Int32} (eb : b = nI (a + 1)) (ha : a < 600) (ea : yas = nI a) (h : wY_work_146 post (wY_work_79 post (nI mk0) (nI pd0) m) (nI mk0) (nI pd0) 0 yma ypo yhe yvm yin yfi yde yap yas yto yan yco yti yna yac yen yic o l kS d pl ys yk yn yp yf yo yi yw ya y1 y2 yK yW yL yq nm nv no yA lf rt iK iN) : wY_work_132 post (wY_work_79 post (nI mk0) (nI pd0) m) (nI mk0) (nI pd0) b yma ypo yhe yvm yin yfi yde yap yas yto yan yco yti yna yac yen yic o l kS d pl ys yk yn yp yf yo yi yw ya y1 y2 yK yW yL yq nm nv no yA lf rt iK iN := by
  unfold wY_work_132
  exact br_t (by rw [eb, ea]; exact nI_le (by omega) (by omega)) h
/-- behind the turn: another is asked -/
theorem ct_asked {yma ypo yhe yvm : Int32} {yin : Int64} {yfi yde yap yas yto : Int32} {yan : Int64} {yco yti yna yac yen yic : Int32} {o l kS d : Nat → Int32} {pl ys : Nat → Int64} {yk yn yp yf yo : Nat → Int32} {yi : Nat → Int64} {yw ya y1 y2 : Nat → Int32} {yK : Nat → Int64} {yW : Nat → Int32} {yL : Nat → Int64} {yq nm : Nat → Int32} {nv : Nat → Int64} {no : Nat → Int32} {yA lf rt : Nat → Int64} {iK iN : Nat → Int32} {post : SY → Prop} {mk0 pd0 m a : Nat} {b : Int32} (eb : b = nI (a + 1)) (ha : a < 600) (ea : yas = nI (a + 2)) (ht : yti = 0) (h : wY_work_79 post (nI mk0) (nI pd0) m 1 yma ypo yhe yvm yin yfi yde yap yas yto yan yco yti yna yac yen yic o l kS d pl ys yk yn yp yf yo yi yw ya y1 y2 yK yW yL yq nm nv no yA lf rt iK iN) : wY_work_132 post (wY_work_79 post (nI mk0) (nI pd0) m) (nI mk0) (nI pd0) b yma ypo yhe yvm yin yfi yde yap yas yto yan yco yti yna yac yen yic o l kS d pl ys yk yn yp yf yo yi yw ya y1 y2 yK yW yL yq nm nv no yA lf rt iK iN := by
  unfold wY_work_132
  refine br_f (by rw [eb, ea]; exact nI_ge (by omega) (by omega)) ?_
  unfold wY_work_146
  exact br_t ht (br_f (by rw [ea]; exact nI_ne0 (by omega) (by omega)) h)
/-- behind the turn: too much was counted -/
theorem ct_tired {yma ypo yhe yvm : Int32} {yin : Int64} {yfi yde yap yas yto : Int32} {yan : Int64} {yco yti yna yac yen yic : Int32} {o l kS d : Nat → Int32} {pl ys : Nat → Int64} {yk yn yp yf yo : Nat → Int32} {yi : Nat → Int64} {yw ya y1 y2 : Nat → Int32} {yK : Nat → Int64} {yW : Nat → Int32} {yL : Nat → Int64} {yq nm : Nat → Int32} {nv : Nat → Int64} {no : Nat → Int32} {yA lf rt : Nat → Int64} {iK iN : Nat → Int32} {post : SY → Prop} {mk0 pd0 m : Nat} {b : Int32} (ht : yti = 1) (h : post ((nI mk0), (nI pd0), yhe, yvm, yin, yfi, yde, yap, yas, yto, yan, yco, yti, yna, yac, 3, yic, o, l, kS, d, pl, ys, yk, yn, yp, yf, yo, yi, yw, ya, y1, y2, yK, yW, yL, yq, nm, nv, no, yA, lf, rt, iK, iN)) : wY_work_132 post (wY_work_79 post (nI mk0) (nI pd0) (m + 1)) (nI mk0) (nI pd0) b yma ypo yhe yvm yin yfi yde yap yas yto yan yco yti yna yac yen yic o l kS d pl ys yk yn yp yf yo yi yw ya y1 y2 yK yW yL yq nm nv no yA lf rt iK iN := by
  have key : ∀ z : Int32, wY_work_146 post (wY_work_79 post (nI mk0) (nI pd0) (m + 1)) (nI mk0) (nI pd0) z yma ypo yhe yvm yin yfi yde yap yas yto yan yco yti yna yac yen yic o l kS d pl ys yk yn yp yf yo yi yw ya y1 y2 yK yW yL yq nm nv no yA lf rt iK iN := by
    intro z
    unfold wY_work_146
    refine br_f (by rw [ht]; decide) ?_
    unfold wY_work_79
    exact br_f (by decide) h
  unfold wY_work_132
  exact br_c (fun _ => key 0) (fun _ => key 1)
