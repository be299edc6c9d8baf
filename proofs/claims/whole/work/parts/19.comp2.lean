def oo_C (dd m : Nat) : Nat := m * (1 + oo_T (dd - 1)) + 1
theorem oo_C_T {d m : Nat} (hm : m ≤ 10) (h0 : d = 0 → m = 0) : oo_C d m ≤ oo_T d := by
  unfold oo_C
  cases d with
  | zero => rw [h0 rfl]; decide
  | succ d =>
    have : m * (1 + oo_T d) ≤ 10 * (1 + oo_T d) := Nat.mul_le_mul_right _ hm
    show m * (1 + oo_T d) + 1 ≤ 10 * (1 + oo_T d) + 1
    omega
section
variable {V : Nat → Prop} {K N Z D Im W P : Nat → Int32}
/-- what is asked of a slot in a comparison -/
theorem oo_slot (hx : vv_ox V K N Z D Im W P) {s : Nat} (hs : V s) : ∃ z e, z ≤ 10 ∧ e ≤ 4 ∧ Z s = nI z ∧ D s = nI e ∧ (e = 0 → z = 0) ∧ ∀ i, i < z → ∃ c e', P (s * 10 + i) = nI c ∧ dp_ch P s i = c ∧ c < 653 ∧ V c ∧ D c = nI e' ∧ e' < e := by
  obtain ⟨_, ⟨k1, a1, a2, a3, a4, a5, -⟩ | ⟨k1, z, dd, a1, a2, a3, a4, a5, a6, a7, -⟩⟩ := hx s hs
  · exact ⟨0, 0, by omega, by omega, a4, a5, fun _ => rfl, fun i hi => absurd hi (by omega)⟩
  · refine ⟨z, dd + 1, a4, by omega, a3, a5, fun h => absurd h (by omega), fun i hi => ?_⟩
    obtain ⟨c, c1, c2, c3, _, e', c4, c5⟩ := a7 i hi
    exact ⟨c, e', c1, by rw [dp_ch, c1, nI_clamp (by omega)], c2, c3, c5, by omega⟩
theorem oo_r_0 (dd s q : Nat) : oo_r K N Z P dd s s q = 0 := by
  unfold oo_r
  rw [oo_sg_r]
  exact oo_l_0 _ _ (fun i => oo_c_r (fun t => oo_h_r t) _ _)
theorem oo_r_e {dd s t q : Nat} (h : min (Z s).toNatClampNeg (Z t).toNatClampNeg ≤ q) : oo_r K N Z P dd s t q = oo_sg (Z s).toNatClampNeg (Z t).toNatClampNeg := by
  unfold oo_r
  rw [show min (Z s).toNatClampNeg (Z t).toNatClampNeg - q = 0 by omega]
  rfl
theorem oo_r_s {dd s t q : Nat} (h : q < min (Z s).toNatClampNeg (Z t).toNatClampNeg) : oo_r K N Z P dd s t q = if oo_c (oo_h K N) Z P (dd - 1) (dp_ch P s q) (dp_ch P t q) = 0 then oo_r K N Z P dd s t (q + 1) else oo_c (oo_h K N) Z P (dd - 1) (dp_ch P s q) (dp_ch P t q) := by
  unfold oo_r
  rw [show min (Z s).toNatClampNeg (Z t).toNatClampNeg - q = min (Z s).toNatClampNeg (Z t).toNatClampNeg - (q + 1) + 1 by omega, oo_l]
theorem oo_c_h {d s t : Nat} (h : oo_h K N s t ≠ 0) : oo_c (oo_h K N) Z P d s t = oo_h K N s t := by
  cases d with
  | zero => rfl
  | succ d => rw [oo_c, if_neg h]
theorem oo_c_0 {d s t : Nat} (h : oo_h K N s t = 0) (h0 : d = 0 → (Z s).toNatClampNeg = 0 ∧ (Z t).toNatClampNeg = 0) : oo_c (oo_h K N) Z P d s t = oo_r K N Z P d s t 0 := by
  cases d with
  | zero =>
    obtain ⟨a, b⟩ := h0 rfl
    rw [oo_r_e (by omega), a, b]
    exact h
  | succ d =>
    rw [oo_c, if_pos h]
    rfl
end
theorem xc_exit {xst xow xin xpa xfi xfr xno xsi xan xkn xen xco xrm xac : Int32} {K N Z D Im W P vS pO pX pI fS fP fI fU fR fO fA fH fG fN aS qL qR qP : Nat → Int32} {post : Int32 → SX → Prop} {n : Nat} {r lv sp : Int32} (hr : ¬ r = 0) (hp : post r (xst, xow, xin, xpa, xfi, xfr, xno, xsi, xan, xkn, xen, xco, xrm, xac, K, N, Z, D, Im, W, P, vS, pO, pX, pI, fS, fP, fI, fU, fR, fO, fA, fH, fG, fN, aS, qL, qR, qP)) : wX_compared_34 post xst xow xin xpa xfi xfr xno xsi xan xkn xen xco xrm xac (n + 1) r lv sp K N Z D Im W P vS pO pX pI fS fP fI fU fR fO fA fH fG fN aS qL qR qP := by
  unfold wX_compared_34
  exact br_c (fun _ => hp) (fun _ => br_f hr hp)
theorem xc_head {xst xow xin xpa xfi xfr xno xsi xan xkn xen xco xrm xac : Int32} {K N Z D Im W P vS pO pX pI fS fP fI fU fR fO fA fH fG fN aS qL qR qP : Nat → Int32} {V : Nat → Prop} {post : Int32 → SX → Prop} {n L s t q zs zt st : Nat} (hx : vv_ox V K N Z D Im W P) (hst : st < 1000000) (hL : L ≤ 4) (hs : s < 653) (ht : t < 653) (hq : q ≤ 10) (hzs : zs ≤ 10) (hzt : zt ≤ 10) (eZs : Z s = nI zs) (eZt : Z t = nI zt) (eL : qL L = nI s) (eR : qR L = nI t) (eP : qP L = nI q)
    (h1 : s = t → wX_compared_34 post xst xow xin xpa xfi xfr xno xsi xan xkn xen xco xrm xac n 0 (nI L + (-1)) (nI (st + 1)) K N Z D Im W P vS pO pX pI fS fP fI fU fR fO fA fH fG fN aS qL qR qP)
    (h2 : (zs ≤ q ∨ zt ≤ q) → wX_compared_34 post xst xow xin xpa xfi xfr xno xsi xan xkn xen xco xrm xac n (nI zs - nI zt) (nI L + (-1)) (nI (st + 1)) K N Z D Im W P vS pO pX pI fS fP fI fU fR fO fA fH fG fN aS qL qR qP)
    (h3 : q < zs → q < zt → L < 4 ∧ ∃ s' t', P (s * 10 + q) = nI s' ∧ P (t * 10 + q) = nI t' ∧ V s' ∧ V t' ∧
      wX_compared_34 post xst xow xin xpa xfi xfr xno xsi xan xkn xen xco xrm xac n (oo_h K N s' t') (nI (L + 1)) (nI (st + 1)) K N Z D Im W P vS pO pX pI fS fP fI fU fR fO fA fH fG fN aS (upd qL (L + 1) (nI s')) (upd qR (L + 1) (nI t')) (upd (upd qP L (nI (q + 1))) (L + 1) 0)) :
    wX_compared_34 post xst xow xin xpa xfi xfr xno xsi xan xkn xen xco xrm xac (n + 1) 0 (nI L) (nI st) K N Z D Im W P vS pO pX pI fS fP fI fU fR fO fA fH fG fN aS qL qR qP := by
  have iL : vp_in (nI L) 5 := vp_in_nI (by omega) (by omega)
  have is : vp_in (nI s) 653 := vp_in_nI hs (by omega)
  have it : vp_in (nI t) 653 := vp_in_nI ht (by omega)
  have es : (nI s).toNatClampNeg = s := nI_clamp (by omega)
  have et : (nI t).toNatClampNeg = t := nI_clamp (by omega)
  have h114 : (zs ≤ q ∨ zt ≤ q) → wX_compared_114 post (wX_compared_34 post xst xow xin xpa xfi xfr xno xsi xan xkn xen xco xrm xac n) (nI L) (nI st) (nI s) (nI t) xst xow xin xpa xfi xfr xno xsi xan xkn xen xco xrm xac K N Z D Im W P vS pO pX pI fS fP fI fU fR fO fA fH fG fN aS qL qR qP := by
    intro hz
    unfold wX_compared_114
    rw [es, et, eZs, eZt]
    exact ⟨is, it, nm_e (nm_e (nm_r (nI_1 st) (h2 hz)))⟩
  unfold wX_compared_34
  rw [nI_clamp (show L < 2 ^ 31 by omega), eL, eR, eP]
  refine br_f (nI_ge (b := 1000000) hst (by omega)) (br_t rfl (br_f (nI_pos (by omega)) ⟨iL, nm_e ⟨iL, nm_e ⟨iL, nm_e (br_c (fun e => ?_) (fun ne => ⟨is, ?_⟩))⟩⟩⟩))
  · exact nm_e (nm_r (nI_1 st) (h1 ((nI_eq (by omega) (by omega)).mp e)))
  · rw [es, et, eZs, eZt]
    refine pk_le zs q (fun z => h114 (Or.inl z)) (fun z => ⟨it, pk_lt q zt (fun z' => ?_) (fun z' => h114 (Or.inr z'))⟩)
    obtain ⟨h4, s', t', c1, c2, c3, c3', c4⟩ := h3 z z'
    have iL' : vp_in (nI (L + 1)) 5 := vp_in_nI (by omega) (by omega)
    have eL' : (nI (L + 1)).toNatClampNeg = L + 1 := nI_clamp (by omega)
    rw [nI_1 q]
    refine ⟨iL, iL, nm_e (nm_r (nI_1 L) ?_)⟩
    rw [xi_10, xi_10, nI_clamp (show s * 10 + q < 2 ^ 31 by omega), nI_clamp (show t * 10 + q < 2 ^ 31 by omega), c1, c2, eL']
    refine ⟨vp_in_nI (by omega) (by omega), iL', nm_e ⟨vp_in_nI (by omega) (by omega), iL', nm_e ⟨iL', nm_e ⟨iL', iL', ?_⟩⟩⟩⟩
    rw [pk_us, pk_us, nI_1 st]
    exact xm_headOrder hx c3 c3' (nm_e c4)
theorem xc_se {xst xow xin xpa xfi xfr xno xsi xan xkn xen xco xrm xac : Int32} {K N Z D Im W P vS pO pX pI fS fP fI fU fR fO fA fH fG fN aS qL qR qP : Nat → Int32} {V : Nat → Prop} {post : Int32 → SX → Prop} (hx : vv_ox V K N Z D Im W P) {dd m L s t q zs zt st : Nat} (hL : L ≤ 4) (hs : V s) (ht : V t) (eZs : Z s = nI zs) (eZt : Z t = nI zt) (hzs : zs ≤ 10) (hzt : zt ≤ 10) (eL : qL L = nI s) (eR : qR L = nI t) (eP : qP L = nI q) (hq : q ≤ 10) (hst : st < 1000000) (hC : 1 ≤ m)
    (hdone : ∀ (r : Int32) (qL' qR' qP' : Nat → Int32), ¬ r = 0 → oo_same r (oo_r K N Z P dd s t q) → post r (xst, xow, xin, xpa, xfi, xfr, xno, xsi, xan, xkn, xen, xco, xrm, xac, K, N, Z, D, Im, W, P, vS, pO, pX, pI, fS, fP, fI, fU, fR, fO, fA, fH, fG, fN, aS, qL', qR', qP'))
    (hcont : oo_r K N Z P dd s t q = 0 → ∀ (qL' qR' qP' : Nat → Int32) st', (∀ i, i < L → qL' i = qL i ∧ qR' i = qR i ∧ qP' i = qP i) → st' ≤ st + m → wX_compared_34 post xst xow xin xpa xfi xfr xno xsi xan xkn xen xco xrm xac (1000001 - st') 0 (nI L + (-1)) (nI st') K N Z D Im W P vS pO pX pI fS fP fI fU fR fO fA fH fG fN aS qL' qR' qP')
    (h3 : q < zs → q < zt → L < 4 ∧ ∃ s' t', P (s * 10 + q) = nI s' ∧ P (t * 10 + q) = nI t' ∧ V s' ∧ V t' ∧
      wX_compared_34 post xst xow xin xpa xfi xfr xno xsi xan xkn xen xco xrm xac (1000000 - st) (oo_h K N s' t') (nI (L + 1)) (nI (st + 1)) K N Z D Im W P vS pO pX pI fS fP fI fU fR fO fA fH fG fN aS (upd qL (L + 1) (nI s')) (upd qR (L + 1) (nI t')) (upd (upd qP L (nI (q + 1))) (L + 1) 0)) :
    wX_compared_34 post xst xow xin xpa xfi xfr xno xsi xan xkn xen xco xrm xac (1000001 - st) 0 (nI L) (nI st) K N Z D Im W P vS pO pX pI fS fP fI fU fR fO fA fH fG fN aS qL qR qP := by
  rw [show 1000001 - st = (1000000 - st) + 1 by omega]
  have hc1 : oo_r K N Z P dd s t q = 0 → wX_compared_34 post xst xow xin xpa xfi xfr xno xsi xan xkn xen xco xrm xac (1000000 - st) 0 (nI L + (-1)) (nI (st + 1)) K N Z D Im W P vS pO pX pI fS fP fI fU fR fO fA fH fG fN aS qL qR qP := by
    intro h0
    have := hcont h0 qL qR qP (st + 1) (fun _ _ => ⟨rfl, rfl, rfl⟩) (by omega)
    rw [show 1000001 - (st + 1) = 1000000 - st by omega] at this
    exact this
  refine xc_head hx hst hL (hx s hs).1 (hx t ht).1 hq hzs hzt eZs eZt eL eR eP (fun e => ?_) (fun hz => ?_) h3
  · subst e
    exact hc1 (oo_r_0 _ _ _)
  · have he : oo_r K N Z P dd s t q = oo_sg zs zt := by
      rw [oo_r_e, eZs, eZt, nI_clamp (by omega), nI_clamp (by omega)]
      rw [eZs, eZt, nI_clamp (by omega), nI_clamp (by omega)]
      omega
    have hsm := oo_same_sg hzs hzt
    by_cases e : nI zs - nI zt = 0
    · rw [e]
      exact hc1 (he.trans (hsm.1.mp e))
    · rw [show 1000000 - st = (999999 - st) + 1 by omega]
      exact xc_exit e (hdone _ _ _ _ e (by rw [he]; exact hsm))
theorem xc_pair {xst xow xin xpa xfi xfr xno xsi xan xkn xen xco xrm xac : Int32} {K N Z D Im W P vS pO pX pI fS fP fI fU fR fO fA fH fG fN aS qL qR qP : Nat → Int32} {V : Nat → Prop} {post : Int32 → SX → Prop} (hx : vv_ox V K N Z D Im W P) : ∀ dd m L s t q zs zt (qL qR qP : Nat → Int32) st, L + dd ≤ 4 → V s → V t → (∃ e, D s = nI e ∧ e ≤ dd) → (∃ e, D t = nI e ∧ e ≤ dd) →
    Z s = nI zs → Z t = nI zt → zs ≤ 10 → zt ≤ 10 → min zs zt - q = m → qL L = nI s → qR L = nI t → qP L = nI q → q ≤ 10 → st + oo_C dd m ≤ 1000000 →
    (∀ (r : Int32) (qL' qR' qP' : Nat → Int32), ¬ r = 0 → oo_same r (oo_r K N Z P dd s t q) → post r (xst, xow, xin, xpa, xfi, xfr, xno, xsi, xan, xkn, xen, xco, xrm, xac, K, N, Z, D, Im, W, P, vS, pO, pX, pI, fS, fP, fI, fU, fR, fO, fA, fH, fG, fN, aS, qL', qR', qP')) →
    (oo_r K N Z P dd s t q = 0 → ∀ (qL' qR' qP' : Nat → Int32) st', (∀ i, i < L → qL' i = qL i ∧ qR' i = qR i ∧ qP' i = qP i) → st' ≤ st + oo_C dd m → wX_compared_34 post xst xow xin xpa xfi xfr xno xsi xan xkn xen xco xrm xac (1000001 - st') 0 (nI L + (-1)) (nI st') K N Z D Im W P vS pO pX pI fS fP fI fU fR fO fA fH fG fN aS qL' qR' qP') →
    wX_compared_34 post xst xow xin xpa xfi xfr xno xsi xan xkn xen xco xrm xac (1000001 - st) 0 (nI L) (nI st) K N Z D Im W P vS pO pX pI fS fP fI fU fR fO fA fH fG fN aS qL qR qP := by
  intro dd
  induction dd with
  | zero =>
    intro m L s t q zs zt qL qR qP st hL hs ht hDs hDt eZs eZt hzs hzt hm eL eR eP hq hst hdone hcont
    obtain ⟨zs', es, c1, c2, c3, c4, c5, -⟩ := oo_slot hx hs
    obtain ⟨e1, x1, x2⟩ := hDs
    have z1 : zs = 0 := by
      have a1 := (nI_eq (by omega) (by omega)).mp (c4.symm.trans x1)
      have a2 := (nI_eq (by omega) (by omega)).mp (c3.symm.trans eZs)
      omega
    exact xc_se hx (by omega) hs ht eZs eZt hzs hzt eL eR eP hq (by unfold oo_C at hst; omega) (by unfold oo_C; omega) hdone hcont (fun h => absurd h (by omega))
  | succ dd ihd =>
    intro m
    induction m with
    | zero =>
      intro L s t q zs zt qL qR qP st hL hs ht hDs hDt eZs eZt hzs hzt hm eL eR eP hq hst hdone hcont
      exact xc_se hx (by omega) hs ht eZs eZt hzs hzt eL eR eP hq (by unfold oo_C at hst; omega) (by unfold oo_C; omega) hdone hcont (fun h h' => absurd h (by omega))
    | succ m ihm =>
      intro L s t q zs zt qL qR qP st hL hs ht hDs hDt eZs eZt hzs hzt hm eL eR eP hq hst hdone hcont
      have hC : oo_C (dd + 1) (m + 1) = oo_C (dd + 1) m + (1 + oo_T dd) := by
        unfold oo_C
        show (m + 1) * (1 + oo_T dd) + 1 = m * (1 + oo_T dd) + 1 + (1 + oo_T dd)
        rw [Nat.succ_mul]
        omega
      have hC1 : 1 ≤ oo_C (dd + 1) m := by unfold oo_C; omega
      refine xc_se hx (by omega) hs ht eZs eZt hzs hzt eL eR eP hq (by omega) (by omega) hdone hcont (fun hqs hqt => ⟨by omega, ?_⟩)
      obtain ⟨zs', es, c1, c2, c3, c4, c5, c6⟩ := oo_slot hx hs
      obtain ⟨zt', et, d1, d2, d3, d4, d5, d6⟩ := oo_slot hx ht
      have a2 : zs' = zs := (nI_eq (by omega) (by omega)).mp (c3.symm.trans eZs)
      have b2 : zt' = zt := (nI_eq (by omega) (by omega)).mp (d3.symm.trans eZt)
      obtain ⟨e1, x1, x2⟩ := hDs
      obtain ⟨e2, y1, y2⟩ := hDt
      have a1 : es = e1 := (nI_eq (by omega) (by omega)).mp (c4.symm.trans x1)
      have b1 : et = e2 := (nI_eq (by omega) (by omega)).mp (d4.symm.trans y1)
      obtain ⟨s', es', p1, p2, p3, p4, p5, p6⟩ := c6 q (by omega)
      obtain ⟨t', et', r1, r2, r3, r4, r5, r6⟩ := d6 q (by omega)
      obtain ⟨zs2, es2, g1, g2, g3, g4, g5, -⟩ := oo_slot hx p4
      obtain ⟨zt2, et2, f1, f2, f3, f4, f5, -⟩ := oo_slot hx r4
      have k1 : es2 = es' := (nI_eq (by omega) (by omega)).mp (g4.symm.trans p5)
      have k2 : et2 = et' := (nI_eq (by omega) (by omega)).mp (f4.symm.trans r5)
      have hmin : q < min (Z s).toNatClampNeg (Z t).toNatClampNeg := by
        rw [eZs, eZt, nI_clamp (by omega), nI_clamp (by omega)]
        omega
      have hrs := oo_r_s (K := K) (N := N) (P := P) (dd := dd + 1) hmin
      rw [p2, r2, show dd + 1 - 1 = dd from rfl] at hrs
      refine ⟨s', t', p1, r1, p4, r4, ?_⟩
      by_cases hh : oo_h K N s' t' = 0
      · have hc0 := oo_c_0 (K := K) (N := N) (Z := Z) (P := P) (d := dd) hh (fun z => by
          rw [g3, f3, nI_clamp (by omega), nI_clamp (by omega)]
          omega)
        have hT : oo_C dd (min zs2 zt2 - 0) ≤ oo_T dd := oo_C_T (by omega) (fun z => by omega)
        rw [hh]
        have key := ihd (min zs2 zt2 - 0) (L + 1) s' t' 0 zs2 zt2 (upd qL (L + 1) (nI s')) (upd qR (L + 1) (nI t')) (upd (upd qP L (nI (q + 1))) (L + 1) 0) (st + 1) (by omega) p4 r4 ⟨es', p5, by omega⟩ ⟨et', r5, by omega⟩ g3 f3 g1 f1 rfl pk_us pk_us pk_us (by omega) (by omega) ?_ ?_
        · rw [show 1000001 - (st + 1) = 1000000 - st by omega] at key
          exact key
        · intro r qL' qR' qP' hr hsm
          refine hdone r qL' qR' qP' hr ?_
          have hne : ¬ oo_c (oo_h K N) Z P dd s' t' = 0 := by
            rw [hc0]
            exact fun z => hr (hsm.1.mpr z)
          rw [hrs, if_neg hne, hc0]
          exact hsm
        · intro h0 qL' qR' qP' st' hag hst'
          rw [pk_m1]
          obtain ⟨i1, i2, i3⟩ := hag L (by omega)
          rw [pk_un (by omega)] at i1 i2 i3
          rw [pk_us] at i3
          have hrs' : oo_r K N Z P (dd + 1) s t q = oo_r K N Z P (dd + 1) s t (q + 1) := by
            rw [hrs, if_pos (by rw [hc0]; exact h0)]
          refine ihm L s t (q + 1) zs zt qL' qR' qP' st' (by omega) hs ht ⟨e1, x1, x2⟩ ⟨e2, y1, y2⟩ eZs eZt hzs hzt (by omega) (i1.trans eL) (i2.trans eR) i3 (by omega) (by omega) ?_ ?_
          · intro r qL2 qR2 qP2 hr hsm
            rw [← hrs'] at hsm
            exact hdone r qL2 qR2 qP2 hr hsm
          · intro h1 qL2 qR2 qP2 st2 hag2 hst2
            rw [← hrs'] at h1
            refine hcont h1 qL2 qR2 qP2 st2 (fun i hi => ?_) (by omega)
            obtain ⟨j1, j2, j3⟩ := hag i (by omega)
            obtain ⟨w1, w2, w3⟩ := hag2 i hi
            rw [pk_un (by omega)] at j1 j2 j3
            rw [pk_un (by omega)] at j3
            exact ⟨w1.trans j1, w2.trans j2, w3.trans j3⟩
      · rw [show 1000000 - st = (999999 - st) + 1 by omega]
        refine xc_exit hh (hdone _ _ _ _ hh ?_)
        rw [hrs, if_neg (by rw [oo_c_h hh]; exact hh), oo_c_h hh]
        exact oo_same_r _
theorem xm_compared {xst xow xin xpa xfi xfr xno xsi xan xkn xen xco xrm xac : Int32} {K N Z D Im W P vS pO pX pI fS fP fI fU fR fO fA fH fG fN aS qL qR qP : Nat → Int32} {V : Nat → Prop} {post : Int32 → SX → Prop} {s t : Nat} (hx : vv_ox V K N Z D Im W P) (hs : V s) (ht : V t)
    (hp : ∀ (r : Int32) (qL' qR' qP' : Nat → Int32), oo_same r (oo_c (oo_h K N) Z P 4 s t) → post r (xst, xow, xin, xpa, xfi, xfr, xno, xsi, xan, xkn, xen, xco, xrm, xac, K, N, Z, D, Im, W, P, vS, pO, pX, pI, fS, fP, fI, fU, fR, fO, fA, fH, fG, fN, aS, qL', qR', qP')) : wpX_compared post (xst, xow, xin, xpa, xfi, xfr, xno, xsi, xan, xkn, xen, xco, xrm, xac, K, N, Z, D, Im, W, P, vS, pO, pX, pI, fS, fP, fI, fU, fR, fO, fA, fH, fG, fN, aS, qL, qR, qP) (nI s) (nI t) := by
  unfold wpX_compared
  dsimp only
  refine xm_headOrder hx hs ht (nm_e (nm_e (nm_e ⟨1000001 - 0, ?_⟩)))
  by_cases hh : oo_h K N s t = 0
  · obtain ⟨zs, es, c1, c2, c3, c4, c5, -⟩ := oo_slot hx hs
    obtain ⟨zt, et, d1, d2, d3, d4, d5, -⟩ := oo_slot hx ht
    have hc0 := oo_c_0 (K := K) (N := N) (Z := Z) (P := P) (d := 4) hh (fun z => absurd z (by omega))
    have hT : oo_C 4 (min zs zt - 0) ≤ oo_T 4 := oo_C_T (by omega) (fun z => absurd z (by omega))
    have hT4 : oo_T 4 = 22221 := by decide
    rw [hh]
    refine xc_pair (qL := qL) (qR := qR) (qP := qP) hx 4 (min zs zt - 0) 0 s t 0 zs zt _ _ _ 0 (by omega) hs ht ⟨es, c4, c2⟩ ⟨et, d4, d2⟩ c3 d3 c1 d1 rfl pk_us pk_us pk_us (by omega) (by omega) ?_ ?_
    · intro r qL' qR' qP' hr hsm
      rw [← hc0] at hsm
      exact hp r qL' qR' qP' hsm
    · intro h0 qL' qR' qP' st' _ hst'
      rw [show 1000001 - st' = (1000000 - st') + 1 by omega]
      unfold wX_compared_34
      have hpp := hp 0 qL' qR' qP' (by rw [hc0, h0]; exact oo_same_r _)
      exact br_c (fun _ => hpp) (fun _ => br_t rfl (br_t (by decide) hpp))
  · refine xc_exit hh (hp _ _ _ _ ?_)
    rw [oo_c_h hh]
    exact oo_same_r _
