/-! ===== X: stores into slots ===== -/
theorem xi_10 (s i : Nat) : nI s * 10 + nI i = nI (s * 10 + i) := by
  show nI s * nI 10 + nI i = _
  rw [pk_mul, nI_add]
theorem xi_3 (s i : Nat) : nI s * 3 + nI i = nI (s * 3 + i) := by
  show nI s * nI 3 + nI i = _
  rw [pk_mul, nI_add]
theorem xi_13 (m : Nat) : 13 + nI m = nI (13 + m) := nI_add 13 m
theorem xi_53 (m : Nat) : 53 + nI m = nI (53 + m) := nI_add 53 m
theorem xm_setPlain {xst xow xin xpa xfi xfr xno xsi xan xkn xen xco xrm xac : Int32} {K N Z D Im W P vS pO pX pI fS fP fI fU fR fO fA fH fG fN aS qL qR qP : Nat → Int32} {post : SX → Prop} {s : Nat} {κ x : Int32} (hs : s < 653)
    (hp : post (xst, xow, xin, xpa, xfi, xfr, xno, xsi, xan, xkn, xen, xco, xrm, xac, (upd K s κ), (upd N s x), (upd Z s 0), (upd D s 0), (upd Im s 1), (upd W s 1), P, vS, pO, pX, pI, fS, fP, fI, fU, fR, fO, fA, fH, fG, fN, aS, qL, qR, qP)) : wpX_setPlain post (xst, xow, xin, xpa, xfi, xfr, xno, xsi, xan, xkn, xen, xco, xrm, xac, K, N, Z, D, Im, W, P, vS, pO, pX, pI, fS, fP, fI, fU, fR, fO, fA, fH, fG, fN, aS, qL, qR, qP) (nI s) κ x := by
  have h : vp_in (nI s) 653 := vp_in_nI hs (by omega)
  have e : (nI s).toNatClampNeg = s := nI_clamp (by omega)
  unfold wpX_setPlain
  dsimp only
  rw [e]
  exact ⟨h, nm_e ⟨h, nm_e ⟨h, nm_e ⟨h, nm_e ⟨h, nm_e ⟨h, nm_e hp⟩⟩⟩⟩⟩⟩
theorem xm_setNested {xst xow xin xpa xfi xfr xno xsi xan xkn xen xco xrm xac : Int32} {K N Z D Im W P vS pO pX pI fS fP fI fU fR fO fA fH fG fN aS qL qR qP : Nat → Int32} {post : SX → Prop} {s : Nat} {κ x : Int32} (hs : s < 653)
    (hp : post (xst, xow, xin, xpa, xfi, xfr, xno, xsi, xan, xkn, xen, xco, xrm, xac, (upd K s κ), (upd N s x), (upd Z s 0), D, Im, W, P, vS, pO, pX, pI, fS, fP, fI, fU, fR, fO, fA, fH, fG, fN, aS, qL, qR, qP)) : wpX_setNested post (xst, xow, xin, xpa, xfi, xfr, xno, xsi, xan, xkn, xen, xco, xrm, xac, K, N, Z, D, Im, W, P, vS, pO, pX, pI, fS, fP, fI, fU, fR, fO, fA, fH, fG, fN, aS, qL, qR, qP) (nI s) κ x := by
  have h : vp_in (nI s) 653 := vp_in_nI hs (by omega)
  have e : (nI s).toNatClampNeg = s := nI_clamp (by omega)
  unfold wpX_setNested
  dsimp only
  rw [e]
  exact ⟨h, nm_e ⟨h, nm_e ⟨h, nm_e hp⟩⟩⟩
theorem xm_addTo {xst xow xin xpa xfi xfr xno xsi xan xkn xen xco xrm xac : Int32} {K N Z D Im W P vS pO pX pI fS fP fI fU fR fO fA fH fG fN aS qL qR qP : Nat → Int32} {post : SX → Prop} {s z : Nat} {x : Int32} (hs : s < 653) (eZ : Z s = nI z) (hz : z < 10)
    (hp : post (xst, xow, xin, xpa, xfi, xfr, xno, xsi, xan, xkn, xen, xco, xrm, xac, K, N, (upd Z s (nI (z + 1))), D, Im, W, (upd P (s * 10 + z) x), vS, pO, pX, pI, fS, fP, fI, fU, fR, fO, fA, fH, fG, fN, aS, qL, qR, qP)) : wpX_addTo post (xst, xow, xin, xpa, xfi, xfr, xno, xsi, xan, xkn, xen, xco, xrm, xac, K, N, Z, D, Im, W, P, vS, pO, pX, pI, fS, fP, fI, fU, fR, fO, fA, fH, fG, fN, aS, qL, qR, qP) (nI s) x := by
  have h : vp_in (nI s) 653 := vp_in_nI hs (by omega)
  have e : (nI s).toNatClampNeg = s := nI_clamp (by omega)
  have h2 : vp_in (nI (s * 10 + z)) 6530 := vp_in_nI (by omega) (by omega)
  unfold wpX_addTo
  dsimp only
  rw [e, eZ, xi_10, nI_clamp (show s * 10 + z < 2 ^ 31 by omega), nI_1]
  exact ⟨h, h2, nm_e ⟨h, h, nm_e hp⟩⟩
theorem xm_measure_l {xst xow xin xpa xfi xfr xno xsi xan xkn xen xco xrm xac : Int32} {K N Z D Im W P vS pO pX pI fS fP fI fU fR fO fA fH fG fN aS qL qR qP : Nat → Int32} {post : SX → Prop} {s z kk : Nat} {c e q w : Nat → Nat} (hs : s < 653) (hz : z ≤ 10) (hkk : kk ≤ 1) (eZ : Z s = nI z)
    (hc : ∀ i, i < z → P (s * 10 + i) = nI (c i) ∧ c i < 653 ∧ D (c i) = nI (e i) ∧ e i ≤ 4 ∧ Im (c i) = nI (q i) ∧ q i ≤ 23332 ∧ W (c i) = nI (w i) ∧ w i ≤ 23332)
    (hp : post (xst, xow, xin, xpa, xfi, xfr, xno, xsi, xan, xkn, xen, xco, xrm, xac, K, N, Z, (upd D s (nI (vv_mx e z + 1))), (upd Im s (nI (2 + vv_sm (fun i => kk + q i) z))), (upd W s (nI (1 + vv_sm w z))), P, vS, pO, pX, pI, fS, fP, fI, fU, fR, fO, fA, fH, fG, fN, aS, qL, qR, qP)) :
    ∀ m i, i + m = z → wX_measure_27 post (nI s) (nI kk) xst xow xin xpa xfi xfr xno xsi xan xkn xen xco xrm xac K N Z D Im W P vS pO pX pI fS fP fI fU fR fO fA fH fG fN aS qL qR qP (m + 1) (nI (vv_mx e i)) (nI (2 + vv_sm (fun i => kk + q i) i)) (nI (1 + vv_sm w i)) (nI i) := by
  have h : vp_in (nI s) 653 := vp_in_nI hs (by omega)
  have es : (nI s).toNatClampNeg = s := nI_clamp (by omega)
  intro m
  induction m with
  | zero =>
    intro i hi
    have hi' : i = z := by omega
    subst hi'
    unfold wX_measure_27
    rw [es, eZ, nI_1]
    exact ⟨h, br_t (nI_le (Nat.le_refl _) (by omega)) ⟨h, nm_e ⟨h, nm_e ⟨h, nm_e hp⟩⟩⟩⟩
  | succ m ih =>
    intro i hi
    obtain ⟨c1, c2, c3, c4, c5, c6, c7, c8⟩ := hc i (by omega)
    have hmx : vv_mx e i ≤ 4 := vv_mx_le (fun j hj => (hc j (by omega)).2.2.2.1)
    have ei : (nI s * 10 + nI i).toNatClampNeg = s * 10 + i := by rw [xi_10, nI_clamp (by omega)]
    have h2 : vp_in (nI s * 10 + nI i) 6530 := by rw [xi_10]; exact vp_in_nI (by omega) (by omega)
    have h3 : vp_in (nI (c i)) 653 := vp_in_nI c2 (by omega)
    have ec : (nI (c i)).toNatClampNeg = c i := nI_clamp (by omega)
    have key : ∀ y : Nat, y = vv_mx e (i + 1) → wX_measure_71 post (wX_measure_27 post (nI s) (nI kk) xst xow xin xpa xfi xfr xno xsi xan xkn xen xco xrm xac K N Z D Im W P vS pO pX pI fS fP fI fU fR fO fA fH fG fN aS qL qR qP (m + 1)) (nI s) (nI kk) (nI y) (nI (2 + vv_sm (fun i => kk + q i) i)) (nI (1 + vv_sm w i)) (nI i) (nI (c i)) xst xow xin xpa xfi xfr xno xsi xan xkn xen xco xrm xac K N Z D Im W P vS pO pX pI fS fP fI fU fR fO fA fH fG fN aS qL qR qP := by
      intro y hy
      subst hy
      unfold wX_measure_71
      rw [ec, c5, c7, nI_add, nI_add, nI_add, nI_1]
      have := ih (i + 1) (by omega)
      rw [show 2 + vv_sm (fun i => kk + q i) (i + 1) = 2 + vv_sm (fun i => kk + q i) i + (kk + q i) from (Nat.add_assoc _ _ _).symm, show 1 + vv_sm w (i + 1) = 1 + vv_sm w i + w i from (Nat.add_assoc _ _ _).symm] at this
      exact ⟨h3, nm_e ⟨h3, nm_e (nm_e this)⟩⟩
    unfold wX_measure_27
    rw [es, eZ, ei, c1]
    refine ⟨h, br_f (nI_ge (by omega) (by omega)) ⟨h2, nm_e ⟨h3, ?_⟩⟩⟩
    rw [ec, c3]
    refine pk_le (e i) (vv_mx e i) (fun hle => key _ ?_) (fun hlt => ⟨h3, nm_e (key _ ?_)⟩)
    · rw [vv_mx, if_neg (by omega)]
    · rw [vv_mx, if_pos hlt]
theorem xm_measure {xst xow xin xpa xfi xfr xno xsi xan xkn xen xco xrm xac : Int32} {K N Z D Im W P vS pO pX pI fS fP fI fU fR fO fA fH fG fN aS qL qR qP : Nat → Int32} {post : SX → Prop} {s z kk : Nat} {c e q w : Nat → Nat} (hs : s < 653) (hz : z ≤ 10) (hK : (K s = 5 ∧ kk = 1) ∨ (¬ K s = 5 ∧ kk = 0)) (eZ : Z s = nI z)
    (hc : ∀ i, i < z → P (s * 10 + i) = nI (c i) ∧ c i < 653 ∧ D (c i) = nI (e i) ∧ e i ≤ 4 ∧ Im (c i) = nI (q i) ∧ q i ≤ 23332 ∧ W (c i) = nI (w i) ∧ w i ≤ 23332)
    (hp : post (xst, xow, xin, xpa, xfi, xfr, xno, xsi, xan, xkn, xen, xco, xrm, xac, K, N, Z, (upd D s (nI (vv_mx e z + 1))), (upd Im s (nI (2 + vv_sm (fun i => kk + q i) z))), (upd W s (nI (1 + vv_sm w z))), P, vS, pO, pX, pI, fS, fP, fI, fU, fR, fO, fA, fH, fG, fN, aS, qL, qR, qP)) : wpX_measure post (xst, xow, xin, xpa, xfi, xfr, xno, xsi, xan, xkn, xen, xco, xrm, xac, K, N, Z, D, Im, W, P, vS, pO, pX, pI, fS, fP, fI, fU, fR, fO, fA, fH, fG, fN, aS, qL, qR, qP) (nI s) := by
  have h : vp_in (nI s) 653 := vp_in_nI hs (by omega)
  have es : (nI s).toNatClampNeg = s := nI_clamp (by omega)
  have hl := xm_measure_l (post := post) hs hz (show kk ≤ 1 by omega) eZ hc hp z 0 (by omega)
  unfold wpX_measure
  dsimp only
  rw [es]
  refine ⟨h, ?_⟩
  rcases hK with ⟨a, b⟩ | ⟨a, b⟩
  · subst b
    exact br_t a ⟨_, hl⟩
  · subst b
    exact br_f a ⟨_, hl⟩
theorem xm_pushOwn {xst xow xin xpa xfi xfr xno xsi xan xkn xen xco xrm xac : Int32} {K N Z D Im W P vS pO pX pI fS fP fI fU fR fO fA fH fG fN aS qL qR qP : Nat → Int32} {post : Int32 → SX → Prop} {h m : Nat} {s : Int32} (eh : xst = nI h) (em : xow = nI m) (hh : h < 12)
    (hp : post (nI (h + 1)) ((nI (h + 1)), (nI (m + 1)), xin, xpa, xfi, xfr, xno, xsi, xan, xkn, xen, xco, xrm, xac, K, N, Z, D, Im, W, P, (upd vS h s), pO, pX, pI, fS, fP, fI, fU, fR, fO, fA, fH, fG, fN, aS, qL, qR, qP)) : wpX_pushOwn post (xst, xow, xin, xpa, xfi, xfr, xno, xsi, xan, xkn, xen, xco, xrm, xac, K, N, Z, D, Im, W, P, vS, pO, pX, pI, fS, fP, fI, fU, fR, fO, fA, fH, fG, fN, aS, qL, qR, qP) s := by
  subst eh em
  have e : (nI h).toNatClampNeg = h := nI_clamp (by omega)
  unfold wpX_pushOwn
  dsimp only
  rw [e, nI_1, nI_1]
  exact nm_e ⟨vp_in_nI hh (by omega), nm_e (nm_e hp)⟩
/-! ===== the keys of an object ===== -/
theorem kb_bit {m b : Nat} (hm : m < 2 ^ 31) (hb : b < 32) : (nI m >>> (nI b &&& 31)) &&& 1 = nI (m / 2 ^ b % 2) := by
  rw [pk_shrN hm _ b (s_l b hb), pk_andN (m := 1) (Nat.lt_of_le_of_lt (Nat.div_le_self _ _) (by omega)) 1 (by decide)]
theorem xm_keysBelow {xst xow xin xpa xfi xfr xno xsi xan xkn xen xco xrm xac : Int32} {K N Z D Im W P vS pO pX pI fS fP fI fU fR fO fA fH fG fN aS qL qR qP : Nat → Int32} {post : Int32 → Prop} {m b : Nat} (hm : m < 256) (hb : b ≤ 8) (hp : post (nI (vv_pc m b))) : wpX_keysBelow post (xst, xow, xin, xpa, xfi, xfr, xno, xsi, xan, xkn, xen, xco, xrm, xac, K, N, Z, D, Im, W, P, vS, pO, pX, pI, fS, fP, fI, fU, fR, fO, fA, fH, fG, fN, aS, qL, qR, qP) (nI m) (nI b) := by
  have hl : ∀ r i, i + r = b → wX_keysBelow_5 post (nI m) (nI b) xst xow xin xpa xfi xfr xno xsi xan xkn xen xco xrm xac K N Z D Im W P vS pO pX pI fS fP fI fU fR fO fA fH fG fN aS qL qR qP (r + 1) (nI (vv_pc m i)) (nI i) := by
    intro r
    induction r with
    | zero =>
      intro i hi
      have hi' : i = b := by omega
      subst hi'
      unfold wX_keysBelow_5
      exact br_t (nI_le (Nat.le_refl _) (by omega)) hp
    | succ r ih =>
      intro i hi
      unfold wX_keysBelow_5
      rw [kb_bit (by omega) (by omega), nI_add, nI_1]
      exact br_f (nI_ge (by omega) (by omega)) (nm_e (nm_e (ih (i + 1) (by omega))))
  unfold wpX_keysBelow
  dsimp only
  exact ⟨_, hl b 0 (by omega)⟩
