/-! ===== the relation ===== -/
/-- X's op as Y numbers it; how many filters it takes -/
def fl_kk (o : Nat) : Nat := if o < 16 then o else if o < 21 then o + 4 else if o < 34 then o + 9 else o + 16
def fl_ar (o : Nat) : Nat := if o < 16 then 0 else if o < 21 then 1 else if o < 34 then 2 else 3
def fl_p (pO pX pI yk : Nat → Int32) (q : Nat) : Prop :=
  ∃ o, o ≤ 35 ∧ pO q = nI o ∧ yk q = nI (fl_kk o) ∧ (∀ r, r < fl_ar o → ∃ c, pI (q * 3 + r) = nI c ∧ c < q) ∧
    (o = 5 → ∃ m, m < 8 ∧ pX q = nI m) ∧ (o = 6 → -10 ≤ (pX q).toInt ∧ (pX q).toInt ≤ 9) ∧ (o = 13 → ∃ m, m < 3 ∧ pX q = nI m) ∧ (o = 18 → ∃ m, m < 10 ∧ pX q = nI m) ∧ (o = 20 → ∃ m, m < 8 ∧ pX q = nI m) ∧ (o = 33 → ∃ m, m < 3 ∧ pX q = nI m) ∧ (o = 35 → ∃ m, m < 3 ∧ pX q = nI m)
def rl_f (np nf : Nat) (xpa xfi : Int32) (pO pX pI fS : Nat → Int32) (yfi yde : Int32) (yk yn yp yf : Nat → Int32) : Prop :=
  xpa = nI np ∧ yfi = nI np ∧ np ≤ 40 ∧ xfi = nI nf ∧ yde = nI nf ∧ nf ≤ 8 ∧ yn = pX ∧ yp = pI ∧ yf = fS ∧ (∀ q, q < np → fl_p pO pX pI yk q) ∧ ∀ i, i < nf → ∃ c, fS i = nI c ∧ c < np
/-- the slots that stand from the beginning -/
def rl_b (V : Nat → Prop) (K N : Nat → Int32) : Prop := (∀ s, s < 3 → V s ∧ K s = nI s) ∧ ∀ g, g < 10 → V (3 + g) ∧ K (3 + g) = nI 3 ∧ N (3 + g) = nI g
def rl_h (V : Nat → Prop) (h m mk pd : Nat) (xst xow xin : Int32) (K N Z D Im W P vS : Nat → Int32) (yma ypo yhe yvm : Int32) (yin : Int64) (o l kS d : Nat → Int32) (pl ys : Nat → Int64) : Prop :=
  xst = nI h ∧ yhe = nI h ∧ h ≤ 12 ∧ xow = nI m ∧ yvm = nI m ∧ m ≤ 40 ∧ yma = nI mk ∧ ypo = nI pd ∧ mk ≤ m ∧ pd ≤ 10 * m ∧
  vv_ox V K N Z D Im W P ∧ (∀ s, V s → s < 13 + m) ∧ rl_b V K N ∧ vv_cy mk pd o l pl ∧
  (∀ i, i < h → vv_R V K N Z D P mk o l kS d pl (vS i) (ys i)) ∧ vv_R V K N Z D P mk o l kS d pl xin yin
/-- a state of Y from which a run is to be worked out: T is the input, the filter is X's -/
def kn_fam (T : List Nat → Option vv_L) (np nf : Nat) (pO pX pI fS : Nat → Int32) (mk pd : Nat) (yma ypo : Int32) (yin : Int64) (yfi yde : Int32) (o l kS d : Nat → Int32) (pl : Nat → Int64) (yk yn yp yf : Nat → Int32) : Prop :=
  yma = nI mk ∧ ypo = nI pd ∧ mk ≤ 40 ∧ pd ≤ 400 ∧ vv_cy mk pd o l pl ∧ vv_vy mk yin ∧ (∀ p, vv_y o l kS d pl p yin = T p) ∧
  yfi = nI np ∧ yde = nI nf ∧ yn = pX ∧ yp = pI ∧ yf = fS ∧ ∀ q, q < np → fl_p pO pX pI yk q
/-- Y's state behind the run -/
def kn_res (V : Nat → Prop) (K N Z D P aS : Nat → Int32) (xen xco xac : Int32) (mk pd : Nat) (yma ypo yhe yvm : Int32) (yin : Int64) (yfi yde : Int32) (o l kS d : Nat → Int32) (pl ys : Nat → Int64) (yk yn yp yf : Nat → Int32) (v : SY) : Prop :=
  match v with
  | (yma', ypo', yhe', yvm', yin', yfi', yde', yap', yas', yto', yan', yco', yti', yna', yac', yen', yic', o', l', kS', d', pl', ys', yk', yn', yp', yf', yo', yi', yw', ya', y1', y2', yK', yW', yL', yq', nm', nv', no', yA', lf', rt', iK', iN') => (yma' = yma ∧ ypo' = ypo ∧ yhe' = yhe ∧ yvm' = yvm ∧ yin' = yin ∧ yfi' = yfi ∧ yde' = yde ∧ ys' = ys ∧ yk' = yk ∧ yn' = yn ∧ yp' = yp ∧ yf' = yf) ∧
    (∀ j, j < mk → o' j = o j ∧ l' j = l j ∧ kS' j = kS j ∧ d' j = d j) ∧ (∀ i, i < pd → pl' i = pl i) ∧
    yen' = xen ∧ yco' = xco ∧ yac' = xac ∧ ∃ mk' pd', vv_cy mk' pd' o' l' pl' ∧ ∀ i, i < xac.toNatClampNeg → vv_R V K N Z D P mk' o' l' kS' d' pl' (aS i) (yA' i)
def kn_ok (T : List Nat → Option vv_L) (np nf : Nat) (pO pX pI fS : Nat → Int32) (V : Nat → Prop) (K N Z D P aS : Nat → Int32) (xen xco xac : Int32) : Prop :=
  ∀ (mk pd : Nat) (yma ypo yhe yvm : Int32) (yin : Int64) (yfi yde yap yas yto : Int32) (yan : Int64) (yco yti yna yac yen yic : Int32) (o l kS d : Nat → Int32) (pl ys : Nat → Int64) (yk yn yp yf yo : Nat → Int32) (yi : Nat → Int64) (yw ya y1 y2 : Nat → Int32) (yK : Nat → Int64) (yW : Nat → Int32) (yL : Nat → Int64) (yq nm : Nat → Int32) (nv : Nat → Int64) (no : Nat → Int32) (yA lf rt : Nat → Int64) (iK iN : Nat → Int32),
    kn_fam T np nf pO pX pI fS mk pd yma ypo yin yfi yde o l kS d pl yk yn yp yf →
    ∀ post : SY → Prop, (∀ v, kn_res V K N Z D P aS xen xco xac mk pd yma ypo yhe yvm yin yfi yde o l kS d pl ys yk yn yp yf v → post v) → wpY_work post (yma, ypo, yhe, yvm, yin, yfi, yde, yap, yas, yto, yan, yco, yti, yna, yac, yen, yic, o, l, kS, d, pl, ys, yk, yn, yp, yf, yo, yi, yw, ya, y1, y2, yK, yW, yL, yq, nm, nv, no, yA, lf, rt, iK, iN)
def rl_k (m np nf : Nat) (xin : Int32) (K N Z D Im W P pO pX pI fS aS : Nat → Int32) (xkn xen xco xac : Int32) : Prop :=
  xkn = 0 ∨ (xkn = 1 ∧ ∃ (V : Nat → Prop) (a : Nat), vv_ox V K N Z D Im W P ∧ (∀ s, V s → s < 13 + m ∨ 53 ≤ s) ∧ xac = nI a ∧ a ≤ 20 ∧ (∀ i, i < a → ∃ n, aS i = nI n ∧ V n) ∧
    kn_ok (fun p => vv_x K N Z D P p xin.toNatClampNeg) np nf pO pX pI fS V K N Z D P aS xen xco xac)
def i_Rel (_ : Nat) (u : SX) (v : SY) : Prop :=
  match u, v with
  | (xst, xow, xin, xpa, xfi, xfr, xno, xsi, xan, xkn, xen, xco, xrm, xac, K, N, Z, D, Im, W, P, vS, pO, pX, pI, fS, fP, fI, fU, fR, fO, fA, fH, fG, fN, aS, qL, qR, qP), (yma, ypo, yhe, yvm, yin, yfi, yde, yap, yas, yto, yan, yco, yti, yna, yac, yen, yic, o, l, kS, d, pl, ys, yk, yn, yp, yf, yo, yi, yw, ya, y1, y2, yK, yW, yL, yq, nm, nv, no, yA, lf, rt, iK, iN) => ∃ (V : Nat → Prop) (h m mk pd np nf : Nat), rl_h V h m mk pd xst xow xin K N Z D Im W P vS yma ypo yhe yvm yin o l kS d pl ys ∧ rl_f np nf xpa xfi pO pX pI fS yfi yde yk yn yp yf ∧ rl_k m np nf xin K N Z D Im W P pO pX pI fS aS xkn xen xco xac
theorem i_up {k : Nat} {u : SX} {v : SY} (h : i_Rel k u v) : i_Rel (k + 3) u v := h
