/-! ===== the run in lockstep: what holds at the head of X's loop ===== -/
/-- Y's stack of those asked is the path -/
def md_q (yq : Nat → Int32) : List Nat → Prop
  | [] => True
  | g :: l => yq l.length = nI g ∧ md_q yq l
/-- frames that have neither given nor begun; what frames may still cost -/
def md_w2 (fA fG : Nat → Int32) (f : Nat) : Nat := if fG f = 0 ∧ fA f = -1 then 1 else 0
/-- 'all' begun and not given -/
def md_w3 (pO fP fA fG : Nat → Int32) (f : Nat) : Nat := if fr_o pO fP f = 16 ∧ fA f ≠ -1 ∧ fG f = 0 then 1 else 0
def md_w1 (fO fA fG : Nat → Int32) (f : Nat) : Nat := (if fG f = 0 then 1 else 0) + (if fA f = fO f then 0 else 1)
/-- the phase: 0 asked, 1 answered, else ended or failed -/
def md_ph (xsi : Int32) (len : Nat) : Nat := if xsi = 0 then 360 - 4 * len else if xsi = 1 then 400 + 4 * len else 20 + 4 * len
/-- X's slots -/
def md_hx (V : Nat → Prop) (bo rm : Nat) (K N Z D Im W P K0 N0 Z0 D0 I0 W0 P0 : Nat → Int32) : Prop :=
  vv_ox V K N Z D Im W P ∧ (∀ s, V s → (s < bo ∨ 53 ≤ s) ∧ s < 53 + rm) ∧ bo ≤ 53 ∧ rl_b V K N ∧ vv_eq (fun s => s < 53) K0 N0 Z0 D0 I0 W0 P0 K N Z D Im W P
/-- arrays that 'all' is still filling -/
def md_bx (V : Nat → Prop) (rm n : Nat) (pO fP fA fH fG K N Z D P : Nat → Int32) : Prop :=
  (∀ f, f < n → fr_o pO fP f = 16 → fA f ≠ -1 → fG f = 0 → ∃ h z, fH f = nI h ∧ 53 ≤ h ∧ h < 53 + rm ∧ ¬ V h ∧ K h = 4 ∧ N h = 0 ∧ Z h = nI z ∧ z ≤ 10 ∧ ∀ i, i < z → ∃ c e, P (h * 10 + i) = nI c ∧ V c ∧ D c = nI e ∧ e ≤ 3) ∧
  (∀ f f', f < n → f' < n → f ≠ f' → fr_o pO fP f = 16 → fA f ≠ -1 → fG f = 0 → fr_o pO fP f' = 16 → fA f' ≠ -1 → fG f' = 0 → fH f ≠ fH f')
/-- X alone, at the head of its loop: st steps done, path g :: pa -/
def md_X (V al : Nat → Prop) (g : Nat) (pa : List Nat) (bo np n c rm a st : Nat) (xfr xno xsi xen xco xrm xac : Int32) (K N Z D Im W P K0 N0 Z0 D0 I0 W0 P0 pO pX fP fU fR fO fA fH fG : Nat → Int32) : Prop :=
  (xfr = nI n ∧ xno = nI g ∧ xen = -1 ∧ xco = nI c ∧ xrm = nI rm ∧ xac = nI a ∧ a < 20 ∧ n ≤ c ∧ c ≤ 600 ∧ np ≤ 40) ∧
  (xsi = 0 ∨ xsi = 1 ∨ xsi = 2 ∨ xsi = 3) ∧
  md_hx V bo rm K N Z D Im W P K0 N0 Z0 D0 I0 W0 P0 ∧ md_bx V rm n pO fP fA fH fG K N Z D P ∧
  fr_X pO pX np n fP fU fR fO fA fG al (g :: pa) (xsi = 0 ∨ xsi = 1) ∧
  rm + vv_sm (md_w2 fA fG) n ≤ c ∧ (∀ f, f < n → ∃ gv, fG f = nI gv ∧ gv ≤ st) ∧
  st + 1600 * (600 - c) + 600 * vv_sm (md_w1 fO fA fG) n + md_ph xsi (pa.length + 1) ≤ 999999
/-- Y's pool and composites -/
def md_hy (rm mk pd mk0 pd0 : Nat) (o l kS d : Nat → Int32) (pl : Nat → Int64) (o0 l0 k0 d0 : Nat → Int32) (pl0 : Nat → Int64) : Prop :=
  vv_cy mk pd o l pl ∧ mk0 ≤ mk ∧ mk ≤ 40 + rm ∧ pd0 ≤ pd ∧ pd ≤ 400 + 10 * rm ∧ (∀ j, j < mk0 → o j = o0 j ∧ l j = l0 j ∧ kS j = k0 j ∧ d j = d0 j) ∧ ∀ i, i < pd0 → pl i = pl0 i
/-- the cells that 'all' has taken of the pool -/
def md_by (R : Int32 → Int64 → Prop) (n mk pd pd0 : Nat) (pO fP fA fH fG Z P : Nat → Int32) (o l ya yW : Nat → Int32) (pl : Nat → Int64) : Prop :=
  (∀ f, f < n → fr_o pO fP f = 16 → fA f ≠ -1 → ∃ a w, ya f = nI (a + 1) ∧ yW f = nI w ∧ w ≤ 10 ∧ pd0 ≤ a ∧ a + 10 ≤ pd ∧ (∀ j x y, j < mk → o j = nI x → l j = nI y → y ≤ 10 → x + y ≤ pd → x + y ≤ a + w ∨ a + 10 ≤ x) ∧
    (fG f = 0 → Z (fH f).toNatClampNeg = nI w ∧ ∀ i, i < w → R (P ((fH f).toNatClampNeg * 10 + i)) (pl (a + i)))) ∧
  (∀ f f' a a', f < n → f' < n → f ≠ f' → fr_o pO fP f = 16 → fA f ≠ -1 → fr_o pO fP f' = 16 → fA f' ≠ -1 → ya f = nI (a + 1) → ya f' = nI (a' + 1) → a < 8200 → a' < 8200 → a + 10 ≤ a' ∨ a' + 10 ≤ a)
/-- g of deep's answers are given, the last of them by this way -/
def md_dp (Z W P : Nat → Int32) (s : Int32) (g way : Nat) : Prop := ∃ p, way = dp_wy p ∧ p.length ≤ 4 ∧ dp_ok Z P p s.toNatClampNeg ∧ dp_ix W P p s.toNatClampNeg = g
def md_ea (Z : Nat → Int32) (s : Int32) (g : Nat) : Prop := g ≤ (Z s.toNatClampNeg).toNatClampNeg
/-- X and Y, at the head of X's loop -/
def md_Y (V : Nat → Prop) (pa : List Nat) (g np n c rm a st mk pd nd mk0 pd0 : Nat) (xsi xan : Int32) (K N Z D W P pO pX pI fP fI fO fA fH fG fN aS : Nat → Int32)
    (yma ypo yap yas yto : Int32) (yan : Int64) (yco yti yna yac yen : Int32) (o ln kS d : Nat → Int32) (pl : Nat → Int64) (yk yn yp yo : Nat → Int32) (yi : Nat → Int64) (yw ya y1 y2 : Nat → Int32) (yK : Nat → Int64) (yW : Nat → Int32) (yL : Nat → Int64) (yq nm : Nat → Int32) (nv : Nat → Int64) (no : Nat → Int32) (yA : Nat → Int64)
    (o0 l0 k0 d0 : Nat → Int32) (pl0 : Nat → Int64) : Prop :=
  (yma = nI mk ∧ ypo = nI pd ∧ yap = nI n ∧ yco = nI c ∧ yti = 0 ∧ yna = nI nd ∧ nd ≤ n ∧ yac = nI a ∧ yen = -1000000004 ∧ yn = pX ∧ yp = pI ∧ mk + vv_sm (md_w3 pO fP fA fG) n ≤ 40 + rm) ∧
  (∀ q, q < np → fl_p pO pX pI yk q) ∧ en_ok nd no ∧
  md_hy rm mk pd mk0 pd0 o ln kS d pl o0 l0 k0 d0 pl0 ∧
  md_by (vv_R V K N Z D P mk o ln kS d pl) n mk pd pd0 pO fP fA fH fG Z P o ln ya yW pl ∧
  (∀ f, f < n → fr_R (vv_R V K N Z D P mk o ln kS d pl) (md_ea Z) (md_dp Z W P) (en_e nm no nv) nd st pO pX fP fI fO fA fH fG fN yo yi yw ya y1 y2 yK yW yL f) ∧
  (∀ i, i < a → vv_R V K N Z D P mk o ln kS d pl (aS i) (yA i)) ∧
  (xsi = 0 → yas = nI (pa.length + 1) ∧ md_q yq (g :: pa)) ∧
  (xsi ≠ 0 → yas = nI pa.length ∧ md_q yq pa) ∧
  (xsi = 1 → yto = 0 ∧ vv_R V K N Z D P mk o ln kS d pl xan yan) ∧ (xsi = 2 → yto = 1) ∧ (xsi = 3 → yto = 2)
/-- a state of Y from which the run may be worked out -/
def kn_F (T : List Nat → Option vv_L) (np nf : Nat) (pO pX pI fS : Nat → Int32) (mk0 pd0 : Nat) (v0 : SY) : Prop :=
  match v0 with
  | (yma, ypo, yhe, yvm, yin, yfi, yde, yap, yas, yto, yan, yco, yti, yna, yac, yen, yic, o, l, kS, d, pl, ys, yk, yn, yp, yf, yo, yi, yw, ya, y1, y2, yK, yW, yL, yq, nm, nv, no, yA, lf, rt, iK, iN) => kn_fam T np nf pO pX pI fS mk0 pd0 yma ypo yin yfi yde o l kS d pl yk yn yp yf
