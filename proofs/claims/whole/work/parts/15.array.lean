/-! ===== array and object ===== -/
theorem xm_stackNested {xst xow xin xpa xfi xfr xno xsi xan xkn xen xco xrm xac : Int32} {K N Z D Im W P vS pO pX pI fS fP fI fU fR fO fA fH fG fN aS qL qR qP : Nat → Int32} {post : Int32 → SX → Prop} {h m κ z kk : Nat} {key : Int32} {c e q w : Nat → Nat} {V : Nat → Prop} (eh : xst = nI h) (em : xow = nI m) (hm : m < 40) (hzh : z ≤ h) (hh : h ≤ 12) (hl : h - z < 12) (hz : z ≤ 10)
    (hk : (κ = 4 ∧ kk = 0) ∨ (κ = 5 ∧ kk = 1)) (hc : ns_ch V D Im W (13 + m) z (fun i => vS (h - z + i)) c e q w) (hne : ∀ t, V t → t ≠ 13 + m)
    (hp : ∀ K' N' Z' D' Im' W' P' : Nat → Int32, vv_ns (13 + m) κ z kk key (fun i => vS (h - z + i)) e q w K N Z D Im W P K' N' Z' D' Im' W' P' →
      (vv_mx e z ≤ 3 → post (nI (h - z + 1)) ((nI (h - z + 1)), (nI (m + 1)), xin, xpa, xfi, xfr, xno, xsi, xan, xkn, xen, xco, xrm, xac, K', N', Z', D', Im', W', P', (upd vS (h - z) (nI (13 + m))), pO, pX, pI, fS, fP, fI, fU, fR, fO, fA, fH, fG, fN, aS, qL, qR, qP)) ∧
      (4 ≤ vv_mx e z → post (-1000000002) (xst, xow, xin, xpa, xfi, xfr, xno, xsi, xan, xkn, xen, xco, xrm, xac, K', N', Z', D', Im', W', P', vS, pO, pX, pI, fS, fP, fI, fU, fR, fO, fA, fH, fG, fN, aS, qL, qR, qP))) : wpX_stackNested post (xst, xow, xin, xpa, xfi, xfr, xno, xsi, xan, xkn, xen, xco, xrm, xac, K, N, Z, D, Im, W, P, vS, pO, pX, pI, fS, fP, fI, fU, fR, fO, fA, fH, fG, fN, aS, qL, qR, qP) (nI κ) key (nI z) := by
  subst eh em
  have es : (nI (13 + m)).toNatClampNeg = 13 + m := nI_clamp (by omega)
  have hmx : vv_mx e z ≤ 4 := vv_mx_le (fun i hi => (hc i hi).2.2.2.2.2.1)
  have key61 : ∀ r i (Z' P' : Nat → Int32), i + r = z → (∀ t, t ≠ 13 + m → Z' t = Z t ∧ ∀ j, j < 10 → P' (t * 10 + j) = P (t * 10 + j)) → Z' (13 + m) = nI i → (∀ j, j < i → P' ((13 + m) * 10 + j) = vS (h - z + j)) →
      wX_stackNested_61 post (nI z) (nI (h - z)) (nI (13 + m)) (r + 1) (nI i) (nI h) (nI m) xin xpa xfi xfr xno xsi xan xkn xen xco xrm xac (upd K (13 + m) (nI κ)) (upd N (13 + m) key) Z' D Im W P' vS pO pX pI fS fP fI fU fR fO fA fH fG fN aS qL qR qP := by
    intro r
    induction r with
    | zero =>
      intro i Z' P' hi ho eZ eP
      have hi' : i = z := by omega
      subst hi'
      unfold wX_stackNested_61
      refine br_t (nI_le (Nat.le_refl _) (by omega)) ?_
      refine xm_ns (V := V) (c := c) (K0 := K) (N0 := N) (Z0 := Z) (P0 := P) (by omega) hz hk hc hne (fun t ht => ⟨pk_un ht, pk_un ht, (ho t ht).1, (ho t ht).2⟩) pk_us pk_us eZ eP (fun D' Im' W' hns => ?_)
      have hD := hns.2.2.2.2.1
      dsimp only
      rw [es, hD]
      refine ⟨vp_in_nI (by omega) (by omega), pk_le (vv_mx e i + 1) 4 (fun hle => ?_) (fun hgt => ?_)⟩
      · exact xm_pushOwn rfl rfl hl ((hp _ _ _ _ _ _ _ hns).1 (by omega))
      · exact (hp _ _ _ _ _ _ _ hns).2 (by omega)
    | succ r ih =>
      intro i Z' P' hi ho eZ eP
      unfold wX_stackNested_61
      rw [nI_add, nI_clamp (show h - z + i < 2 ^ 31 by omega)]
      refine br_f (nI_ge (by omega) (by omega)) ⟨vp_in_nI (by omega) (by omega), ?_⟩
      refine xm_addTo (z := i) (by omega) eZ (by omega) (nm_r (nI_1 i) ?_)
      refine ih (i + 1) _ _ (by omega) (fun t ht => ⟨(pk_un ht).trans (ho t ht).1, fun j hj => (pk_un (vv_pl ht hj (by omega))).trans ((ho t ht).2 j hj)⟩) pk_us (fun j hj => ?_)
      by_cases ej : j = i
      · subst ej; rw [pk_us]
      · rw [pk_un (by omega)]; exact eP j (by omega)
  unfold wpX_stackNested
  dsimp only
  rw [pk_sub hzh]
  refine br_t (nI_lt (b := 40) hm (by omega)) (br_t (nI_le hzh (by omega)) (nm_e (br_t (nI_lt (b := 12) hl (by omega)) (nm_r (xi_13 m) ?_))))
  refine xm_setNested (by omega) ?_
  exact ⟨_, key61 z 0 _ _ (by omega) (fun t ht => ⟨pk_un ht, fun _ _ => rfl⟩) pk_us (fun j hj => absurd hj (by omega))⟩
theorem ym_takeOff {yma ypo yhe yvm : Int32} {yin : Int64} {yfi yde yap yas yto : Int32} {yan : Int64} {yco yti yna yac yen yic : Int32} {o l kS d : Nat → Int32} {pl ys : Nat → Int64} {yk yn yp yf yo : Nat → Int32} {yi : Nat → Int64} {yw ya y1 y2 : Nat → Int32} {yK : Nat → Int64} {yW : Nat → Int32} {yL : Nat → Int64} {yq nm : Nat → Int32} {nv : Nat → Int64} {no : Nat → Int32} {yA lf rt : Nat → Int64} {iK iN : Nat → Int32} {post : Int32 → SY → Prop} {h m κ z mk pd : Nat} {key : Int32} {e : Nat → Nat} (eh : yhe = nI h) (em : yvm = nI m) (hm : m < 40) (hzh : z ≤ h) (hh : h ≤ 12) (hl : h - z < 12) (hz : z ≤ 10) (hκ : κ < 16)
    (ek : yma = nI mk) (ep : ypo = nI pd) (hmk : mk < 760) (hpd : pd + z ≤ 8200) (hc : ∀ i, i < z → yd_is d (ys (h - z + i)) (e i))
    (hp : (vv_mx e z ≤ 3 → ∀ pl' : Nat → Int64, (∀ j, j < pd → pl' j = pl j) → (∀ i, i < z → pl' (pd + i) = ys (h - z + i)) →
        post (nI (h - z + 1)) ((nI (mk + 1)), (nI (pd + z)), (nI (h - z + 1)), (nI (m + 1)), yin, yfi, yde, yap, yas, yto, yan, yco, yti, yna, yac, yen, yic, (upd o mk (nI pd)), (upd l mk (nI z)), (upd kS mk key), (upd d mk (nI (vv_mx e z + 1))), pl', (vp_updL ys (h - z) (yy_t κ (nI mk))), yk, yn, yp, yf, yo, yi, yw, ya, y1, y2, yK, yW, yL, yq, nm, nv, no, yA, lf, rt, iK, iN)) ∧
      (4 ≤ vv_mx e z → post (-1000000002) (yma, ypo, yhe, yvm, yin, yfi, yde, yap, yas, yto, yan, yco, yti, yna, yac, yen, yic, o, l, kS, d, pl, ys, yk, yn, yp, yf, yo, yi, yw, ya, y1, y2, yK, yW, yL, yq, nm, nv, no, yA, lf, rt, iK, iN))) : wpY_takeOff post (yma, ypo, yhe, yvm, yin, yfi, yde, yap, yas, yto, yan, yco, yti, yna, yac, yen, yic, o, l, kS, d, pl, ys, yk, yn, yp, yf, yo, yi, yw, ya, y1, y2, yK, yW, yL, yq, nm, nv, no, yA, lf, rt, iK, iN) (nI κ) (nI z) key := by
  subst eh em ek ep
  have k86 : vv_mx e z ≤ 3 → ∀ r i (pl' : Nat → Int64), i + r = z → (∀ j, j < pd → pl' j = pl j) → (∀ j, j < i → pl' (pd + j) = ys (h - z + j)) →
      wY_takeOff_86 post (nI κ) (nI z) key (nI pd) (nI mk) (nI h) (nI m) yin yfi yde yap yas yto yan yco yti yna yac yen yic (r + 1) (nI i) (nI (pd + i)) o l kS d pl' ys yk yn yp yf yo yi yw ya y1 y2 yK yW yL yq nm nv no yA lf rt iK iN := by
    intro hmx r
    induction r with
    | zero =>
      intro i pl' hi hlo hhi
      have hi' : i = z := by omega
      subst hi'
      unfold wY_takeOff_86
      rw [pk_sub hzh]
      refine br_t (nI_le (Nat.le_refl _) (by omega)) (nm_e ?_)
      refine ym_compose (mk := mk) (e := e) rfl hmk hκ hz hpd (fun j hj => ?_) ?_
      · rw [hhi j hj]; exact hc j hj
      · dsimp only
        rw [nI_clamp (show h - i < 2 ^ 31 by omega), nI_1, nI_1]
        exact ⟨vp_in_nI hl (by omega), nm_e (nm_e (nm_e (hp.1 hmx pl' hlo hhi)))⟩
    | succ r ih =>
      intro i pl' hi hlo hhi
      unfold wY_takeOff_86
      rw [pk_sub hzh, nI_add, nI_clamp (show h - z + i < 2 ^ 31 by omega), nI_clamp (show pd + i < 2 ^ 31 by omega), nI_1, nI_1]
      refine br_f (nI_ge (by omega) (by omega)) ⟨vp_in_nI (by omega) (by omega), vp_in_nI (by omega) (by omega), nm_e (nm_e (nm_e ?_))⟩
      refine ih (i + 1) _ (by omega) (fun j hj => (pk_uLn (by omega)).trans (hlo j hj)) (fun j hj => ?_)
      by_cases ej : j = i
      · subst ej; rw [pk_uLs]
      · rw [pk_uLn (by omega)]; exact hhi j (by omega)
  have k40 : ∀ r i, i + r = z → (∀ j, j < i → e j ≤ 3) → wY_takeOff_40 post (nI κ) (nI z) key (nI mk) (nI pd) (nI h) (nI m) yin yfi yde yap yas yto yan yco yti yna yac yen yic o l kS d pl ys yk yn yp yf yo yi yw ya y1 y2 yK yW yL yq nm nv no yA lf rt iK iN (r + 1) (nI i) := by
    intro r
    induction r with
    | zero =>
      intro i hi h3
      have hi' : i = z := by omega
      subst hi'
      unfold wY_takeOff_40
      exact br_t (nI_le (Nat.le_refl _) (by omega)) ⟨_, k86 (vv_mx_le h3) i 0 pl (by omega) (fun _ _ => rfl) (fun j hj => absurd hj (by omega))⟩
    | succ r ih =>
      intro i hi h3
      have h4 := (hc i (by omega)).1
      unfold wY_takeOff_40
      rw [pk_sub hzh, nI_add, nI_clamp (show h - z + i < 2 ^ 31 by omega)]
      refine br_f (nI_ge (by omega) (by omega)) ⟨vp_in_nI (by omega) (by omega), ym_depthOf (hc i (by omega)) ?_⟩
      refine pk_eq (e i) 4 (fun e4 => hp.2 ?_) (fun n4 => nm_r (nI_1 i) (ih (i + 1) (by omega) (fun j hj => ?_)))
      · have := vv_mx_ge (f := e) (show i < z by omega)
        omega
      · by_cases ej : j = i
        · subst ej; omega
        · exact h3 j (by omega)
  unfold wpY_takeOff
  dsimp only
  rw [pk_sub hzh]
  refine br_f (fun z => absurd ((nI_eq (b := 40) (by omega) (by omega)).mp z) (by omega)) (br_t (nI_le hzh (by omega)) (br_f (fun z => absurd ((nI_eq (b := 12) (by omega) (by omega)).mp z) (by omega)) ⟨_, k40 z 0 (by omega) (fun j hj => absurd hj (by omega))⟩))
