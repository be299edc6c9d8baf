/-! ===== X: what is counted before it is made ===== -/
theorem xk_1shl {x : Nat} (hx : x < 8) : (1 : Int32) <<< (nI x &&& 31) = nI (2 ^ x) := by
  have h : 1 * 2 ^ x < 2 ^ 32 := by
    have : 2 ^ x ≤ 2 ^ 7 := Nat.pow_le_pow_right (by decide) (by omega)
    omega
  have := pk_shlN (n := 1) (nI x &&& 31) x (s_l x (by omega)) h
  rw [Nat.one_mul] at this
  exact this
theorem xk_object {xst xow xin xpa xfi xfr xno xsi xan xkn xen xco xrm xac : Int32} {K N Z D Im W P vS pO pX pI fS fP fI fU fR fO fA fH fG fN aS qL qR qP : Nat → Int32} {V : Nat → Prop} {post : SX → Prop} {g pq s x d rm : Nat} {c e q w : Nat → Nat} (eg : xno = nI g) (hg : g < 600) (eP : fP g = nI pq) (hpq : pq < 40) (eX : pX pq = nI x) (hx : x < 8) (hs : s < 653) (eD : D s = nI d) (hd : d ≤ 4) (er : xrm = nI rm) (hrm : rm < 600) (hc : ns_ch V D Im W (53 + rm) 1 (fun _ => nI s) c e q w) (hne : ∀ u, V u → u ≠ 53 + rm)
    (h3 : 4 ≤ d → post (xst, xow, xin, xpa, xfi, xfr, xno, 3, xan, xkn, xen, xco, xrm, xac, K, N, Z, D, Im, W, P, vS, pO, pX, pI, fS, fP, fI, fU, fR, fO, fA, fH, fG, fN, aS, qL, qR, qP))
    (hp : d < 4 → ∀ K' N' Z' D' Im' W' P' : Nat → Int32, vv_ns (53 + rm) 5 1 1 (nI (2 ^ x)) (fun _ => nI s) e q w K N Z D Im W P K' N' Z' D' Im' W' P' → post (xst, xow, xin, xpa, xfi, xfr, xno, 1, (nI (53 + rm)), xkn, xen, xco, (nI (rm + 1)), xac, K', N', Z', D', Im', W', P', vS, pO, pX, pI, fS, fP, fI, fU, fR, fO, fA, fH, fG, fN, aS, qL, qR, qP)) : wpX_makeObject post (xst, xow, xin, xpa, xfi, xfr, xno, xsi, xan, xkn, xen, xco, xrm, xac, K, N, Z, D, Im, W, P, vS, pO, pX, pI, fS, fP, fI, fU, fR, fO, fA, fH, fG, fN, aS, qL, qR, qP) (nI s) := by
  subst eg
  have eg' : (nI g).toNatClampNeg = g := nI_clamp (by omega)
  have hin : vp_in (nI g) 600 := vp_in_nI hg (by omega)
  have his : vp_in (nI s) 653 := vp_in_nI hs (by omega)
  have es : (nI s).toNatClampNeg = s := nI_clamp (by omega)
  unfold wpX_makeObject
  dsimp only
  rw [es, eD]
  refine ⟨his, pk_lt d 4 (fun hlt => ?_) (fun hge => h3 hge)⟩
  refine xr_runSlot er ?_
  dsimp only
  rw [eg', eP, nI_clamp (show pq < 2 ^ 31 by omega), eX, xk_1shl hx]
  refine ⟨hin, vp_in_nI hpq (by omega), xm_setNested (by omega) (xm_addTo (z := 0) (by omega) pk_us (by omega) ?_)⟩
  refine xm_ns (V := V) (c := c) (K0 := K) (N0 := N) (Z0 := Z) (P0 := P) (by omega) (by omega) (Or.inr ⟨rfl, rfl⟩) hc hne (fun u hu => ⟨pk_un hu, pk_un hu, (pk_un hu).trans (pk_un hu), fun i hi => pk_un (vv_pl hu hi (by omega))⟩) pk_us pk_us pk_us (fun i hi => ?_) (fun D' Im' W' hns => ?_)
  · have : i = 0 := by omega
    subst this
    exact pk_us
  · exact xr_give (hp hlt _ _ _ _ _ _ _ hns)
theorem xk_sum {xst xow xin xpa xfi xfr xno xsi xan xkn xen xco xrm xac : Int32} {K N Z D Im W P vS pO pX pI fS fP fI fU fR fO fA fH fG fN aS qL qR qP : Nat → Int32} {post : SX → Prop} {s t κ κ' rm : Nat} (hs : s < 653) (ht : t < 653) (eK : K s = nI κ) (eK' : K t = nI κ') (hκ : κ ≤ 5) (hκ' : κ' ≤ 5) (er : xrm = nI rm) (hrm : rm < 600)
    (h0 : κ = 0 → post (xst, xow, xin, xpa, xfi, xfr, xno, 1, (nI t), xkn, xen, xco, xrm, xac, K, N, Z, D, Im, W, P, vS, pO, pX, pI, fS, fP, fI, fU, fR, fO, fA, fH, fG, fN, aS, qL, qR, qP)) (h0' : κ ≠ 0 → κ' = 0 → post (xst, xow, xin, xpa, xfi, xfr, xno, 1, (nI s), xkn, xen, xco, xrm, xac, K, N, Z, D, Im, W, P, vS, pO, pX, pI, fS, fP, fI, fU, fR, fO, fA, fH, fG, fN, aS, qL, qR, qP)) (h3 : κ ≠ 0 → κ' ≠ 0 → (κ ≠ κ' ∨ κ < 3) → post (xst, xow, xin, xpa, xfi, xfr, xno, 3, xan, xkn, xen, xco, xrm, xac, K, N, Z, D, Im, W, P, vS, pO, pX, pI, fS, fP, fI, fU, fR, fO, fA, fH, fG, fN, aS, qL, qR, qP))
    (hn : κ = 3 → κ' = 3 → post (xst, xow, xin, xpa, xfi, xfr, xno, 1, (nI (53 + rm)), xkn, xen, xco, (nI (rm + 1)), xac, (upd K (53 + rm) 3), (upd N (53 + rm) (N s + N t)), (upd Z (53 + rm) 0), (upd D (53 + rm) 0), (upd Im (53 + rm) 1), (upd W (53 + rm) 1), P, vS, pO, pX, pI, fS, fP, fI, fU, fR, fO, fA, fH, fG, fN, aS, qL, qR, qP))
    (hj : κ = 4 → κ' = 4 → ∀ Q : SX → Prop, (∀ (xst' xow' xin' xpa' xfi' xfr' xno' xsi' xan' xkn' xen' xco' xrm' xac' : Int32) (K' N' Z' D' Im' W' P' vS' pO' pX' pI' fS' fP' fI' fU' fR' fO' fA' fH' fG' fN' aS' qL' qR' qP' : Nat → Int32), post (xst', xow', xin', xpa', xfi', xfr', xno', xsi', xan', xkn', xen', xco', xrm', xac', K', N', Z', D', Im', W', P', vS', pO', pX', pI', fS', fP', fI', fU', fR', fO', fA', fH', fG', fN', aS', qL', qR', qP') → Q (xst', xow', xin', xpa', xfi', xfr', xno', xsi', xan', xkn', xen', xco', xrm', xac', K', N', Z', D', Im', W', P', vS', pO', pX', pI', fS', fP', fI', fU', fR', fO', fA', fH', fG', fN', aS', qL', qR', qP')) → wpX_makeJoined Q (xst, xow, xin, xpa, xfi, xfr, xno, xsi, xan, xkn, xen, xco, xrm, xac, K, N, Z, D, Im, W, P, vS, pO, pX, pI, fS, fP, fI, fU, fR, fO, fA, fH, fG, fN, aS, qL, qR, qP) (nI s) (nI t)) (hm : κ = 5 → κ' = 5 → ∀ Q : SX → Prop, (∀ (xst' xow' xin' xpa' xfi' xfr' xno' xsi' xan' xkn' xen' xco' xrm' xac' : Int32) (K' N' Z' D' Im' W' P' vS' pO' pX' pI' fS' fP' fI' fU' fR' fO' fA' fH' fG' fN' aS' qL' qR' qP' : Nat → Int32), post (xst', xow', xin', xpa', xfi', xfr', xno', xsi', xan', xkn', xen', xco', xrm', xac', K', N', Z', D', Im', W', P', vS', pO', pX', pI', fS', fP', fI', fU', fR', fO', fA', fH', fG', fN', aS', qL', qR', qP') → Q (xst', xow', xin', xpa', xfi', xfr', xno', xsi', xan', xkn', xen', xco', xrm', xac', K', N', Z', D', Im', W', P', vS', pO', pX', pI', fS', fP', fI', fU', fR', fO', fA', fH', fG', fN', aS', qL', qR', qP')) → wpX_makeMerged Q (xst, xow, xin, xpa, xfi, xfr, xno, xsi, xan, xkn, xen, xco, xrm, xac, K, N, Z, D, Im, W, P, vS, pO, pX, pI, fS, fP, fI, fU, fR, fO, fA, fH, fG, fN, aS, qL, qR, qP) (nI s) (nI t)) : wpX_makeSum post (xst, xow, xin, xpa, xfi, xfr, xno, xsi, xan, xkn, xen, xco, xrm, xac, K, N, Z, D, Im, W, P, vS, pO, pX, pI, fS, fP, fI, fU, fR, fO, fA, fH, fG, fN, aS, qL, qR, qP) (nI s) (nI t) := by
  have his : vp_in (nI s) 653 := vp_in_nI hs (by omega)
  have hit : vp_in (nI t) 653 := vp_in_nI ht (by omega)
  have es : (nI s).toNatClampNeg = s := nI_clamp (by omega)
  have et : (nI t).toNatClampNeg = t := nI_clamp (by omega)
  unfold wpX_makeSum
  dsimp only
  rw [es, et, eK, eK']
  refine ⟨his, nm_e (pk_eq κ 0 (fun z => xr_give (h0 z)) (fun n0 => ⟨hit, pk_eq κ' 0 (fun z => xr_give (h0' n0 z)) (fun n0' => ⟨hit, pk_eq κ κ' (fun ee => ?_) (fun ne => h3 n0 n0' (Or.inl ne))⟩)⟩))⟩
  refine pk_eq κ 3 (fun z => ⟨his, hit, xr_giveNumber er hrm (hn z (by omega))⟩) (fun n3 => pk_eq κ 4 (fun z => hj z (by omega) _ ?_) (fun n4 => pk_eq κ 5 (fun z => hm z (by omega) _ ?_) (fun n5 => h3 n0 n0' (Or.inr (by omega)))))
  · intros
    assumption
  · intros
    assumption
theorem xk_number {xst xow xin xpa xfi xfr xno xsi xan xkn xen xco xrm xac : Int32} {K N Z D Im W P vS pO pX pI fS fP fI fU fR fO fA fH fG fN aS qL qR qP : Nat → Int32} {post : SX → Prop} {oq rm : Nat} {a b y : Int32} (h24 : 24 ≤ oq) (h27 : oq ≤ 27) (er : xrm = nI rm) (hrm : rm < 600) (h3 : 26 ≤ oq → b = 0 → post (xst, xow, xin, xpa, xfi, xfr, xno, 3, xan, xkn, xen, xco, xrm, xac, K, N, Z, D, Im, W, P, vS, pO, pX, pI, fS, fP, fI, fU, fR, fO, fA, fH, fG, fN, aS, qL, qR, qP))
    (hy : (oq = 24 → y = a - b) ∧ (oq = 25 → y = a * b) ∧ (oq = 26 → y = a / b) ∧ (oq = 27 → y = a - a / b * b))
    (hp : (26 ≤ oq → ¬ b = 0) → post (xst, xow, xin, xpa, xfi, xfr, xno, 1, (nI (53 + rm)), xkn, xen, xco, (nI (rm + 1)), xac, (upd K (53 + rm) 3), (upd N (53 + rm) y), (upd Z (53 + rm) 0), (upd D (53 + rm) 0), (upd Im (53 + rm) 1), (upd W (53 + rm) 1), P, vS, pO, pX, pI, fS, fP, fI, fU, fR, fO, fA, fH, fG, fN, aS, qL, qR, qP)) : wpX_makeNumber post (xst, xow, xin, xpa, xfi, xfr, xno, xsi, xan, xkn, xen, xco, xrm, xac, K, N, Z, D, Im, W, P, vS, pO, pX, pI, fS, fP, fI, fU, fR, fO, fA, fH, fG, fN, aS, qL, qR, qP) (nI oq) a b := by
  unfold wpX_makeNumber
  dsimp only
  obtain ⟨y1, y2, y3, y4⟩ := hy
  refine pk_eq oq 24 (fun z => ?_) (fun n24 => pk_eq oq 25 (fun z => ?_) (fun n25 => br_c (fun z => h3 (by omega) z) (fun nb => pk_eq oq 26 (fun z => ⟨nb, ?_⟩) (fun n26 => ⟨nb, ?_⟩))))
  · rw [y1 z] at hp
    exact xr_giveNumber er hrm (hp (fun w => absurd w (by omega)))
  · rw [y2 z] at hp
    exact xr_giveNumber er hrm (hp (fun w => absurd w (by omega)))
  · rw [y3 z] at hp
    exact xr_giveNumber er hrm (hp (fun _ => nb))
  · rw [y4 (by omega)] at hp
    exact xr_giveNumber er hrm (hp (fun _ => nb))
theorem xk_tired {xst xow xin xpa xfi xfr xno xsi xan xkn xen xco xrm xac : Int32} {K N Z D Im W P vS pO pX pI fS fP fI fU fR fO fA fH fG fN aS qL qR qP : Nat → Int32} {post : SX → Prop} (ec : xco = nI 600) (hp : post (xst, xow, xin, xpa, xfi, xfr, xno, xsi, xan, xkn, 3, xco, xrm, xac, K, N, Z, D, Im, W, P, vS, pO, pX, pI, fS, fP, fI, fU, fR, fO, fA, fH, fG, fN, aS, qL, qR, qP)) : wpX_makeCounted post (xst, xow, xin, xpa, xfi, xfr, xno, xsi, xan, xkn, xen, xco, xrm, xac, K, N, Z, D, Im, W, P, vS, pO, pX, pI, fS, fP, fI, fU, fR, fO, fA, fH, fG, fN, aS, qL, qR, qP) := by
  unfold wpX_makeCounted
  dsimp only
  exact xr_tired ec (br_t rfl hp)
theorem xk_20 {xst xow xin xpa xfi xfr xno xsi xan xkn xen xco xrm xac : Int32} {K N Z D Im W P vS pO pX pI fS fP fI fU fR fO fA fH fG fN aS qL qR qP : Nat → Int32} {xst' xow' xin' xpa' xfi' xfr' xno' xsi' xan' xkn' xen' xco' xrm' xac' : Int32} {K' N' Z' D' Im' W' P' vS' pO' pX' pI' fS' fP' fI' fU' fR' fO' fA' fH' fG' fN' aS' qL' qR' qP' : Nat → Int32} {post : SX → Prop} {g pq c : Nat} (eg : xno = nI g) (hg : g < 600) (eP : fP g = nI pq) (hpq : pq < 40) (eO : pO pq = nI 20) (ec : xco = nI c) (hc : c < 600) (hA : ∀ Q : SX → Prop, Q (xst', xow', xin', xpa', xfi', xfr', xno', xsi', xan', xkn', xen', xco', xrm', xac', K', N', Z', D', Im', W', P', vS', pO', pX', pI', fS', fP', fI', fU', fR', fO', fA', fH', fG', fN', aS', qL', qR', qP') → wpX_makeObject Q (xst, xow, xin, xpa, xfi, xfr, xno, xsi, xan, xkn, xen, (nI (c + 1)), xrm, xac, K, N, Z, D, Im, W, P, vS, pO, pX, pI, fS, fP, fI, fU, fR, fO, fA, fH, fG, fN, aS, qL, qR, qP) xan) (hp : post (xst', xow', xin', xpa', xfi', xfr', xno', xsi', xan', xkn', xen', xco', xrm', xac', K', N', Z', D', Im', W', P', vS', pO', pX', pI', fS', fP', fI', fU', fR', fO', fA', fH', fG', fN', aS', qL', qR', qP')) : wpX_makeCounted post (xst, xow, xin, xpa, xfi, xfr, xno, xsi, xan, xkn, xen, xco, xrm, xac, K, N, Z, D, Im, W, P, vS, pO, pX, pI, fS, fP, fI, fU, fR, fO, fA, fH, fG, fN, aS, qL, qR, qP) := by
  subst eg
  have eg' : (nI g).toNatClampNeg = g := nI_clamp (by omega)
  have hin : vp_in (nI g) 600 := vp_in_nI hg (by omega)
  have hiq : vp_in (nI pq) 40 := vp_in_nI hpq (by omega)
  unfold wpX_makeCounted
  dsimp only
  refine xr_counts ec hc ?_
  dsimp only
  rw [eg', eP, nI_clamp (show pq < 2 ^ 31 by omega), eO]
  refine br_f (by decide) ⟨hin, hiq, nm_e ⟨hin, nm_e ?_⟩⟩
  exact br_t rfl (hA _ hp)
theorem xk_23 {xst xow xin xpa xfi xfr xno xsi xan xkn xen xco xrm xac : Int32} {K N Z D Im W P vS pO pX pI fS fP fI fU fR fO fA fH fG fN aS qL qR qP : Nat → Int32} {xst' xow' xin' xpa' xfi' xfr' xno' xsi' xan' xkn' xen' xco' xrm' xac' : Int32} {K' N' Z' D' Im' W' P' vS' pO' pX' pI' fS' fP' fI' fU' fR' fO' fA' fH' fG' fN' aS' qL' qR' qP' : Nat → Int32} {post : SX → Prop} {g pq c : Nat} (eg : xno = nI g) (hg : g < 600) (eP : fP g = nI pq) (hpq : pq < 40) (eO : pO pq = nI 23) (ec : xco = nI c) (hc : c < 600) (hA : ∀ Q : SX → Prop, Q (xst', xow', xin', xpa', xfi', xfr', xno', xsi', xan', xkn', xen', xco', xrm', xac', K', N', Z', D', Im', W', P', vS', pO', pX', pI', fS', fP', fI', fU', fR', fO', fA', fH', fG', fN', aS', qL', qR', qP') → wpX_makeSum Q (xst, xow, xin, xpa, xfi, xfr, xno, xsi, xan, xkn, xen, (nI (c + 1)), xrm, xac, K, N, Z, D, Im, W, P, vS, pO, pX, pI, fS, fP, fI, fU, fR, fO, fA, fH, fG, fN, aS, qL, qR, qP) (fH g) xan) (hp : post (xst', xow', xin', xpa', xfi', xfr', xno', xsi', xan', xkn', xen', xco', xrm', xac', K', N', Z', D', Im', W', P', vS', pO', pX', pI', fS', fP', fI', fU', fR', fO', fA', fH', fG', fN', aS', qL', qR', qP')) : wpX_makeCounted post (xst, xow, xin, xpa, xfi, xfr, xno, xsi, xan, xkn, xen, xco, xrm, xac, K, N, Z, D, Im, W, P, vS, pO, pX, pI, fS, fP, fI, fU, fR, fO, fA, fH, fG, fN, aS, qL, qR, qP) := by
  subst eg
  have eg' : (nI g).toNatClampNeg = g := nI_clamp (by omega)
  have hin : vp_in (nI g) 600 := vp_in_nI hg (by omega)
  have hiq : vp_in (nI pq) 40 := vp_in_nI hpq (by omega)
  unfold wpX_makeCounted
  dsimp only
  refine xr_counts ec hc ?_
  dsimp only
  rw [eg', eP, nI_clamp (show pq < 2 ^ 31 by omega), eO]
  refine br_f (by decide) ⟨hin, hiq, nm_e ⟨hin, nm_e ?_⟩⟩
  exact br_f (by decide) (br_f (by decide) (br_f (by decide) (br_f (by decide) (br_f (by decide) (br_t rfl (hA _ hp))))))
theorem xk_30 {xst xow xin xpa xfi xfr xno xsi xan xkn xen xco xrm xac : Int32} {K N Z D Im W P vS pO pX pI fS fP fI fU fR fO fA fH fG fN aS qL qR qP : Nat → Int32} {post : SX → Prop} {g pq c : Nat} (eg : xno = nI g) (hg : g < 600) (eP : fP g = nI pq) (hpq : pq < 40) (eO : pO pq = nI 30) (ec : xco = nI c) (hc : c < 600) {s κ : Nat} (ea : xan = nI s) (hs : s < 653) (eK : K s = nI κ) (hκ : κ ≤ 5) (h2 : 2 ≤ κ → post (xst, xow, xin, xpa, xfi, xfr, xno, 1, 2, xkn, xen, (nI (c + 1)), xrm, xac, K, N, Z, D, Im, W, P, vS, pO, pX, pI, fS, fP, fI, fU, fR, fO, fA, fH, fG, fN, aS, qL, qR, qP)) (h1 : κ < 2 → post (xst, xow, xin, xpa, xfi, xfr, xno, 1, 1, xkn, xen, (nI (c + 1)), xrm, xac, K, N, Z, D, Im, W, P, vS, pO, pX, pI, fS, fP, fI, fU, fR, fO, fA, fH, fG, fN, aS, qL, qR, qP)) : wpX_makeCounted post (xst, xow, xin, xpa, xfi, xfr, xno, xsi, xan, xkn, xen, xco, xrm, xac, K, N, Z, D, Im, W, P, vS, pO, pX, pI, fS, fP, fI, fU, fR, fO, fA, fH, fG, fN, aS, qL, qR, qP) := by
  subst eg
  have eg' : (nI g).toNatClampNeg = g := nI_clamp (by omega)
  have hin : vp_in (nI g) 600 := vp_in_nI hg (by omega)
  have hiq : vp_in (nI pq) 40 := vp_in_nI hpq (by omega)
  have k64 : wX_makeCounted_64 post xan xst xow xin xpa xfi xfr (nI g) xsi xan xkn xen (nI (c + 1)) xrm xac K N Z D Im W P vS pO pX pI fS fP fI fU fR fO fA fH fG fN aS qL qR qP := by
    unfold wX_makeCounted_64
    rw [ea]
    refine xr_isEmpty hs eK hκ (fun w => br_t rfl ?_) (fun w => br_f (by decide) ?_)
    · unfold wX_makeCounted_82
      exact xr_giveTruth (fun z => absurd z (by decide)) (fun _ => h2 w)
    · unfold wX_makeCounted_82
      exact xr_giveTruth (fun _ => h1 w) (fun z => absurd rfl z)
  unfold wpX_makeCounted
  dsimp only
  refine xr_counts ec hc ?_
  dsimp only
  rw [eg', eP, nI_clamp (show pq < 2 ^ 31 by omega), eO]
  refine br_f (by decide) ⟨hin, hiq, nm_e ⟨hin, nm_e ?_⟩⟩
  exact br_f (by decide) (br_t rfl (k64))
theorem xk_31 {xst xow xin xpa xfi xfr xno xsi xan xkn xen xco xrm xac : Int32} {K N Z D Im W P vS pO pX pI fS fP fI fU fR fO fA fH fG fN aS qL qR qP : Nat → Int32} {post : SX → Prop} {g pq c : Nat} (eg : xno = nI g) (hg : g < 600) (eP : fP g = nI pq) (hpq : pq < 40) (eO : pO pq = nI 31) (ec : xco = nI c) (hc : c < 600) {s κ : Nat} (ea : xan = nI s) (hs : s < 653) (eK : K s = nI κ) (hκ : κ ≤ 5) (h2 : 2 ≤ κ → post (xst, xow, xin, xpa, xfi, xfr, xno, 1, 2, xkn, xen, (nI (c + 1)), xrm, xac, K, N, Z, D, Im, W, P, vS, pO, pX, pI, fS, fP, fI, fU, fR, fO, fA, fH, fG, fN, aS, qL, qR, qP)) (h1 : κ < 2 → post (xst, xow, xin, xpa, xfi, xfr, xno, 1, 1, xkn, xen, (nI (c + 1)), xrm, xac, K, N, Z, D, Im, W, P, vS, pO, pX, pI, fS, fP, fI, fU, fR, fO, fA, fH, fG, fN, aS, qL, qR, qP)) : wpX_makeCounted post (xst, xow, xin, xpa, xfi, xfr, xno, xsi, xan, xkn, xen, xco, xrm, xac, K, N, Z, D, Im, W, P, vS, pO, pX, pI, fS, fP, fI, fU, fR, fO, fA, fH, fG, fN, aS, qL, qR, qP) := by
  subst eg
  have eg' : (nI g).toNatClampNeg = g := nI_clamp (by omega)
  have hin : vp_in (nI g) 600 := vp_in_nI hg (by omega)
  have hiq : vp_in (nI pq) 40 := vp_in_nI hpq (by omega)
  have k64 : wX_makeCounted_64 post xan xst xow xin xpa xfi xfr (nI g) xsi xan xkn xen (nI (c + 1)) xrm xac K N Z D Im W P vS pO pX pI fS fP fI fU fR fO fA fH fG fN aS qL qR qP := by
    unfold wX_makeCounted_64
    rw [ea]
    refine xr_isEmpty hs eK hκ (fun w => br_t rfl ?_) (fun w => br_f (by decide) ?_)
    · unfold wX_makeCounted_82
      exact xr_giveTruth (fun z => absurd z (by decide)) (fun _ => h2 w)
    · unfold wX_makeCounted_82
      exact xr_giveTruth (fun _ => h1 w) (fun z => absurd rfl z)
  unfold wpX_makeCounted
  dsimp only
  refine xr_counts ec hc ?_
  dsimp only
  rw [eg', eP, nI_clamp (show pq < 2 ^ 31 by omega), eO]
  refine br_f (by decide) ⟨hin, hiq, nm_e ⟨hin, nm_e ?_⟩⟩
  exact br_f (by decide) (br_f (by decide) (br_t rfl (k64)))
theorem xk_28 {xst xow xin xpa xfi xfr xno xsi xan xkn xen xco xrm xac : Int32} {K N Z D Im W P vS pO pX pI fS fP fI fU fR fO fA fH fG fN aS qL qR qP : Nat → Int32} {post : SX → Prop} {g pq c : Nat} (eg : xno = nI g) (hg : g < 600) (eP : fP g = nI pq) (hpq : pq < 40) (eO : pO pq = nI 28) (ec : xco = nI c) (hc : c < 600) {V : Nat → Prop} {s t : Nat} (hx : vv_ox V K N Z D Im W P) (eh : fH g = nI s) (ea : xan = nI t) (hs : V s) (ht : V t) (h2 : ∀ qL' qR' qP' : Nat → Int32, oo_c (oo_h K N) Z P 4 s t < 0 → post (xst, xow, xin, xpa, xfi, xfr, xno, 1, 2, xkn, xen, (nI (c + 1)), xrm, xac, K, N, Z, D, Im, W, P, vS, pO, pX, pI, fS, fP, fI, fU, fR, fO, fA, fH, fG, fN, aS, qL', qR', qP')) (h1 : ∀ qL' qR' qP' : Nat → Int32, ¬ oo_c (oo_h K N) Z P 4 s t < 0 → post (xst, xow, xin, xpa, xfi, xfr, xno, 1, 1, xkn, xen, (nI (c + 1)), xrm, xac, K, N, Z, D, Im, W, P, vS, pO, pX, pI, fS, fP, fI, fU, fR, fO, fA, fH, fG, fN, aS, qL', qR', qP')) : wpX_makeCounted post (xst, xow, xin, xpa, xfi, xfr, xno, xsi, xan, xkn, xen, xco, xrm, xac, K, N, Z, D, Im, W, P, vS, pO, pX, pI, fS, fP, fI, fU, fR, fO, fA, fH, fG, fN, aS, qL, qR, qP) := by
  subst eg
  have eg' : (nI g).toNatClampNeg = g := nI_clamp (by omega)
  have hin : vp_in (nI g) 600 := vp_in_nI hg (by omega)
  have hiq : vp_in (nI pq) 40 := vp_in_nI hpq (by omega)
  have k100 : wX_makeCounted_100 post (nI 28) (fH g) xan xst xow xin xpa xfi xfr (nI g) xsi xan xkn xen (nI (c + 1)) xrm xac K N Z D Im W P vS pO pX pI fS fP fI fU fR fO fA fH fG fN aS qL qR qP := by
    unfold wX_makeCounted_100
    rw [eh, ea]
    refine xm_compared hx hs ht (fun r qL' qR' qP' hsm => ?_)
    refine br_t rfl (br_c (fun z => ?_) (fun z => ?_))
    · unfold wX_makeCounted_138
      exact xr_giveTruth (fun _ => h1 _ _ _ (fun w => Int32.not_lt.mpr z (hsm.2.mpr w))) (fun z => absurd rfl z)
    · unfold wX_makeCounted_138
      exact xr_giveTruth (fun z => absurd z (by decide)) (fun _ => h2 _ _ _ (hsm.2.mp (Int32.not_le.mp z)))
  unfold wpX_makeCounted
  dsimp only
  refine xr_counts ec hc ?_
  dsimp only
  rw [eg', eP, nI_clamp (show pq < 2 ^ 31 by omega), eO]
  refine br_f (by decide) ⟨hin, hiq, nm_e ⟨hin, nm_e ?_⟩⟩
  exact br_f (by decide) (br_f (by decide) (br_f (by decide) (br_t rfl (k100))))
theorem xk_29 {xst xow xin xpa xfi xfr xno xsi xan xkn xen xco xrm xac : Int32} {K N Z D Im W P vS pO pX pI fS fP fI fU fR fO fA fH fG fN aS qL qR qP : Nat → Int32} {post : SX → Prop} {g pq c : Nat} (eg : xno = nI g) (hg : g < 600) (eP : fP g = nI pq) (hpq : pq < 40) (eO : pO pq = nI 29) (ec : xco = nI c) (hc : c < 600) {V : Nat → Prop} {s t : Nat} (hx : vv_ox V K N Z D Im W P) (eh : fH g = nI s) (ea : xan = nI t) (hs : V s) (ht : V t) (h2 : ∀ qL' qR' qP' : Nat → Int32, oo_c (oo_h K N) Z P 4 s t = 0 → post (xst, xow, xin, xpa, xfi, xfr, xno, 1, 2, xkn, xen, (nI (c + 1)), xrm, xac, K, N, Z, D, Im, W, P, vS, pO, pX, pI, fS, fP, fI, fU, fR, fO, fA, fH, fG, fN, aS, qL', qR', qP')) (h1 : ∀ qL' qR' qP' : Nat → Int32, ¬ oo_c (oo_h K N) Z P 4 s t = 0 → post (xst, xow, xin, xpa, xfi, xfr, xno, 1, 1, xkn, xen, (nI (c + 1)), xrm, xac, K, N, Z, D, Im, W, P, vS, pO, pX, pI, fS, fP, fI, fU, fR, fO, fA, fH, fG, fN, aS, qL', qR', qP')) : wpX_makeCounted post (xst, xow, xin, xpa, xfi, xfr, xno, xsi, xan, xkn, xen, xco, xrm, xac, K, N, Z, D, Im, W, P, vS, pO, pX, pI, fS, fP, fI, fU, fR, fO, fA, fH, fG, fN, aS, qL, qR, qP) := by
  subst eg
  have eg' : (nI g).toNatClampNeg = g := nI_clamp (by omega)
  have hin : vp_in (nI g) 600 := vp_in_nI hg (by omega)
  have hiq : vp_in (nI pq) 40 := vp_in_nI hpq (by omega)
  have k100 : wX_makeCounted_100 post (nI 29) (fH g) xan xst xow xin xpa xfi xfr (nI g) xsi xan xkn xen (nI (c + 1)) xrm xac K N Z D Im W P vS pO pX pI fS fP fI fU fR fO fA fH fG fN aS qL qR qP := by
    unfold wX_makeCounted_100
    rw [eh, ea]
    refine xm_compared hx hs ht (fun r qL' qR' qP' hsm => ?_)
    refine br_f (by decide) (br_c (fun z => ?_) (fun z => ?_))
    · unfold wX_makeCounted_138
      exact xr_giveTruth (fun z => absurd z (by decide)) (fun _ => h2 _ _ _ (hsm.1.mp z))
    · unfold wX_makeCounted_138
      exact xr_giveTruth (fun _ => h1 _ _ _ (fun w => z (hsm.1.mpr w))) (fun z => absurd rfl z)
  unfold wpX_makeCounted
  dsimp only
  refine xr_counts ec hc ?_
  dsimp only
  rw [eg', eP, nI_clamp (show pq < 2 ^ 31 by omega), eO]
  refine br_f (by decide) ⟨hin, hiq, nm_e ⟨hin, nm_e ?_⟩⟩
  exact br_f (by decide) (br_f (by decide) (br_f (by decide) (br_f (by decide) (br_t rfl (k100)))))
theorem xk_24 {xst xow xin xpa xfi xfr xno xsi xan xkn xen xco xrm xac : Int32} {K N Z D Im W P vS pO pX pI fS fP fI fU fR fO fA fH fG fN aS qL qR qP : Nat → Int32} {xst' xow' xin' xpa' xfi' xfr' xno' xsi' xan' xkn' xen' xco' xrm' xac' : Int32} {K' N' Z' D' Im' W' P' vS' pO' pX' pI' fS' fP' fI' fU' fR' fO' fA' fH' fG' fN' aS' qL' qR' qP' : Nat → Int32} {post : SX → Prop} {g pq c : Nat} (eg : xno = nI g) (hg : g < 600) (eP : fP g = nI pq) (hpq : pq < 40) (eO : pO pq = nI 24) (ec : xco = nI c) (hc : c < 600) {s t κ κ' : Nat} (eh : fH g = nI s) (ea : xan = nI t) (hs : s < 653) (ht : t < 653) (eK : K s = nI κ) (eK' : K t = nI κ') (hκ : κ ≤ 5) (hκ' : κ' ≤ 5) (hN : κ = 3 → κ' = 3 → ∀ Q : SX → Prop, Q (xst', xow', xin', xpa', xfi', xfr', xno', xsi', xan', xkn', xen', xco', xrm', xac', K', N', Z', D', Im', W', P', vS', pO', pX', pI', fS', fP', fI', fU', fR', fO', fA', fH', fG', fN', aS', qL', qR', qP') → wpX_makeNumber Q (xst, xow, xin, xpa, xfi, xfr, xno, xsi, xan, xkn, xen, (nI (c + 1)), xrm, xac, K, N, Z, D, Im, W, P, vS, pO, pX, pI, fS, fP, fI, fU, fR, fO, fA, fH, fG, fN, aS, qL, qR, qP) (nI 24) (N s) (N t)) (hW : 24 = 24 → κ = 4 → κ' = 4 → ∀ Q : SX → Prop, Q (xst', xow', xin', xpa', xfi', xfr', xno', xsi', xan', xkn', xen', xco', xrm', xac', K', N', Z', D', Im', W', P', vS', pO', pX', pI', fS', fP', fI', fU', fR', fO', fA', fH', fG', fN', aS', qL', qR', qP') → wpX_makeWithout Q (xst, xow, xin, xpa, xfi, xfr, xno, xsi, xan, xkn, xen, (nI (c + 1)), xrm, xac, K, N, Z, D, Im, W, P, vS, pO, pX, pI, fS, fP, fI, fU, fR, fO, fA, fH, fG, fN, aS, qL, qR, qP) (nI s) (nI t)) (he : ¬ (κ = 3 ∧ κ' = 3) → ¬ (24 = 24 ∧ κ = 4 ∧ κ' = 4) → post (xst, xow, xin, xpa, xfi, xfr, xno, 3, xan, xkn, xen, (nI (c + 1)), xrm, xac, K, N, Z, D, Im, W, P, vS, pO, pX, pI, fS, fP, fI, fU, fR, fO, fA, fH, fG, fN, aS, qL, qR, qP)) (hp : (κ = 3 ∧ κ' = 3) ∨ (24 = 24 ∧ κ = 4 ∧ κ' = 4) → post (xst', xow', xin', xpa', xfi', xfr', xno', xsi', xan', xkn', xen', xco', xrm', xac', K', N', Z', D', Im', W', P', vS', pO', pX', pI', fS', fP', fI', fU', fR', fO', fA', fH', fG', fN', aS', qL', qR', qP')) : wpX_makeCounted post (xst, xow, xin, xpa, xfi, xfr, xno, xsi, xan, xkn, xen, xco, xrm, xac, K, N, Z, D, Im, W, P, vS, pO, pX, pI, fS, fP, fI, fU, fR, fO, fA, fH, fG, fN, aS, qL, qR, qP) := by
  subst eg
  have eg' : (nI g).toNatClampNeg = g := nI_clamp (by omega)
  have hin : vp_in (nI g) 600 := vp_in_nI hg (by omega)
  have hiq : vp_in (nI pq) 40 := vp_in_nI hpq (by omega)
  have his : vp_in (nI s) 653 := vp_in_nI hs (by omega)
  have hit : vp_in (nI t) 653 := vp_in_nI ht (by omega)
  have es : (nI s).toNatClampNeg = s := nI_clamp (by omega)
  have et : (nI t).toNatClampNeg = t := nI_clamp (by omega)
  subst ea
  have k199 : ¬ (κ = 3 ∧ κ' = 3) → wX_makeCounted_199 post (nI 24) (nI s) (nI t) xst xow xin xpa xfi xfr (nI g) xsi (nI t) xkn xen (nI (c + 1)) xrm xac K N Z D Im W P vS pO pX pI fS fP fI fU fR fO fA fH fG fN aS qL qR qP := by
    intro hn
    unfold wX_makeCounted_199
    rw [es, et, eK, eK']
    exact br_t rfl ⟨his, pk_eq κ 4 (fun z => ⟨hit, pk_eq κ' 4 (fun z2 => hW rfl z z2 _ (hp (Or.inr ⟨rfl, z, z2⟩))) (fun z2 => he hn (by omega))⟩) (fun z => he hn (by omega))⟩
  unfold wpX_makeCounted
  dsimp only
  refine xr_counts ec hc ?_
  dsimp only
  rw [eg', eP, nI_clamp (show pq < 2 ^ 31 by omega), eO]
  refine br_f (by decide) ⟨hin, hiq, nm_e ⟨hin, nm_e ?_⟩⟩
  rw [eh, es, et, eK, eK']
  exact br_f (by decide) (br_f (by decide) (br_f (by decide) (br_f (by decide) (br_f (by decide) (br_f (by decide) (⟨his, pk_eq κ 3 (fun z => ⟨hit, pk_eq κ' 3 (fun z2 => ⟨his, hit, hN z z2 _ (hp (Or.inl ⟨z, z2⟩))⟩) (fun z2 => k199 (by omega))⟩) (fun z => k199 (by omega))⟩))))))
theorem xk_25 {xst xow xin xpa xfi xfr xno xsi xan xkn xen xco xrm xac : Int32} {K N Z D Im W P vS pO pX pI fS fP fI fU fR fO fA fH fG fN aS qL qR qP : Nat → Int32} {xst' xow' xin' xpa' xfi' xfr' xno' xsi' xan' xkn' xen' xco' xrm' xac' : Int32} {K' N' Z' D' Im' W' P' vS' pO' pX' pI' fS' fP' fI' fU' fR' fO' fA' fH' fG' fN' aS' qL' qR' qP' : Nat → Int32} {post : SX → Prop} {g pq c : Nat} (eg : xno = nI g) (hg : g < 600) (eP : fP g = nI pq) (hpq : pq < 40) (eO : pO pq = nI 25) (ec : xco = nI c) (hc : c < 600) {s t κ κ' : Nat} (eh : fH g = nI s) (ea : xan = nI t) (hs : s < 653) (ht : t < 653) (eK : K s = nI κ) (eK' : K t = nI κ') (hκ : κ ≤ 5) (hκ' : κ' ≤ 5) (hN : κ = 3 → κ' = 3 → ∀ Q : SX → Prop, Q (xst', xow', xin', xpa', xfi', xfr', xno', xsi', xan', xkn', xen', xco', xrm', xac', K', N', Z', D', Im', W', P', vS', pO', pX', pI', fS', fP', fI', fU', fR', fO', fA', fH', fG', fN', aS', qL', qR', qP') → wpX_makeNumber Q (xst, xow, xin, xpa, xfi, xfr, xno, xsi, xan, xkn, xen, (nI (c + 1)), xrm, xac, K, N, Z, D, Im, W, P, vS, pO, pX, pI, fS, fP, fI, fU, fR, fO, fA, fH, fG, fN, aS, qL, qR, qP) (nI 25) (N s) (N t)) (hW : 25 = 24 → κ = 4 → κ' = 4 → ∀ Q : SX → Prop, Q (xst', xow', xin', xpa', xfi', xfr', xno', xsi', xan', xkn', xen', xco', xrm', xac', K', N', Z', D', Im', W', P', vS', pO', pX', pI', fS', fP', fI', fU', fR', fO', fA', fH', fG', fN', aS', qL', qR', qP') → wpX_makeWithout Q (xst, xow, xin, xpa, xfi, xfr, xno, xsi, xan, xkn, xen, (nI (c + 1)), xrm, xac, K, N, Z, D, Im, W, P, vS, pO, pX, pI, fS, fP, fI, fU, fR, fO, fA, fH, fG, fN, aS, qL, qR, qP) (nI s) (nI t)) (he : ¬ (κ = 3 ∧ κ' = 3) → ¬ (25 = 24 ∧ κ = 4 ∧ κ' = 4) → post (xst, xow, xin, xpa, xfi, xfr, xno, 3, xan, xkn, xen, (nI (c + 1)), xrm, xac, K, N, Z, D, Im, W, P, vS, pO, pX, pI, fS, fP, fI, fU, fR, fO, fA, fH, fG, fN, aS, qL, qR, qP)) (hp : (κ = 3 ∧ κ' = 3) ∨ (25 = 24 ∧ κ = 4 ∧ κ' = 4) → post (xst', xow', xin', xpa', xfi', xfr', xno', xsi', xan', xkn', xen', xco', xrm', xac', K', N', Z', D', Im', W', P', vS', pO', pX', pI', fS', fP', fI', fU', fR', fO', fA', fH', fG', fN', aS', qL', qR', qP')) : wpX_makeCounted post (xst, xow, xin, xpa, xfi, xfr, xno, xsi, xan, xkn, xen, xco, xrm, xac, K, N, Z, D, Im, W, P, vS, pO, pX, pI, fS, fP, fI, fU, fR, fO, fA, fH, fG, fN, aS, qL, qR, qP) := by
  subst eg
  have eg' : (nI g).toNatClampNeg = g := nI_clamp (by omega)
  have hin : vp_in (nI g) 600 := vp_in_nI hg (by omega)
  have hiq : vp_in (nI pq) 40 := vp_in_nI hpq (by omega)
  have his : vp_in (nI s) 653 := vp_in_nI hs (by omega)
  have hit : vp_in (nI t) 653 := vp_in_nI ht (by omega)
  have es : (nI s).toNatClampNeg = s := nI_clamp (by omega)
  have et : (nI t).toNatClampNeg = t := nI_clamp (by omega)
  subst ea
  have k199 : ¬ (κ = 3 ∧ κ' = 3) → wX_makeCounted_199 post (nI 25) (nI s) (nI t) xst xow xin xpa xfi xfr (nI g) xsi (nI t) xkn xen (nI (c + 1)) xrm xac K N Z D Im W P vS pO pX pI fS fP fI fU fR fO fA fH fG fN aS qL qR qP := by
    intro hn
    unfold wX_makeCounted_199
    rw [es, et, eK, eK']
    exact br_f (by decide) (he hn (by omega))
  unfold wpX_makeCounted
  dsimp only
  refine xr_counts ec hc ?_
  dsimp only
  rw [eg', eP, nI_clamp (show pq < 2 ^ 31 by omega), eO]
  refine br_f (by decide) ⟨hin, hiq, nm_e ⟨hin, nm_e ?_⟩⟩
  rw [eh, es, et, eK, eK']
  exact br_f (by decide) (br_f (by decide) (br_f (by decide) (br_f (by decide) (br_f (by decide) (br_f (by decide) (⟨his, pk_eq κ 3 (fun z => ⟨hit, pk_eq κ' 3 (fun z2 => ⟨his, hit, hN z z2 _ (hp (Or.inl ⟨z, z2⟩))⟩) (fun z2 => k199 (by omega))⟩) (fun z => k199 (by omega))⟩))))))
theorem xk_26 {xst xow xin xpa xfi xfr xno xsi xan xkn xen xco xrm xac : Int32} {K N Z D Im W P vS pO pX pI fS fP fI fU fR fO fA fH fG fN aS qL qR qP : Nat → Int32} {xst' xow' xin' xpa' xfi' xfr' xno' xsi' xan' xkn' xen' xco' xrm' xac' : Int32} {K' N' Z' D' Im' W' P' vS' pO' pX' pI' fS' fP' fI' fU' fR' fO' fA' fH' fG' fN' aS' qL' qR' qP' : Nat → Int32} {post : SX → Prop} {g pq c : Nat} (eg : xno = nI g) (hg : g < 600) (eP : fP g = nI pq) (hpq : pq < 40) (eO : pO pq = nI 26) (ec : xco = nI c) (hc : c < 600) {s t κ κ' : Nat} (eh : fH g = nI s) (ea : xan = nI t) (hs : s < 653) (ht : t < 653) (eK : K s = nI κ) (eK' : K t = nI κ') (hκ : κ ≤ 5) (hκ' : κ' ≤ 5) (hN : κ = 3 → κ' = 3 → ∀ Q : SX → Prop, Q (xst', xow', xin', xpa', xfi', xfr', xno', xsi', xan', xkn', xen', xco', xrm', xac', K', N', Z', D', Im', W', P', vS', pO', pX', pI', fS', fP', fI', fU', fR', fO', fA', fH', fG', fN', aS', qL', qR', qP') → wpX_makeNumber Q (xst, xow, xin, xpa, xfi, xfr, xno, xsi, xan, xkn, xen, (nI (c + 1)), xrm, xac, K, N, Z, D, Im, W, P, vS, pO, pX, pI, fS, fP, fI, fU, fR, fO, fA, fH, fG, fN, aS, qL, qR, qP) (nI 26) (N s) (N t)) (hW : 26 = 24 → κ = 4 → κ' = 4 → ∀ Q : SX → Prop, Q (xst', xow', xin', xpa', xfi', xfr', xno', xsi', xan', xkn', xen', xco', xrm', xac', K', N', Z', D', Im', W', P', vS', pO', pX', pI', fS', fP', fI', fU', fR', fO', fA', fH', fG', fN', aS', qL', qR', qP') → wpX_makeWithout Q (xst, xow, xin, xpa, xfi, xfr, xno, xsi, xan, xkn, xen, (nI (c + 1)), xrm, xac, K, N, Z, D, Im, W, P, vS, pO, pX, pI, fS, fP, fI, fU, fR, fO, fA, fH, fG, fN, aS, qL, qR, qP) (nI s) (nI t)) (he : ¬ (κ = 3 ∧ κ' = 3) → ¬ (26 = 24 ∧ κ = 4 ∧ κ' = 4) → post (xst, xow, xin, xpa, xfi, xfr, xno, 3, xan, xkn, xen, (nI (c + 1)), xrm, xac, K, N, Z, D, Im, W, P, vS, pO, pX, pI, fS, fP, fI, fU, fR, fO, fA, fH, fG, fN, aS, qL, qR, qP)) (hp : (κ = 3 ∧ κ' = 3) ∨ (26 = 24 ∧ κ = 4 ∧ κ' = 4) → post (xst', xow', xin', xpa', xfi', xfr', xno', xsi', xan', xkn', xen', xco', xrm', xac', K', N', Z', D', Im', W', P', vS', pO', pX', pI', fS', fP', fI', fU', fR', fO', fA', fH', fG', fN', aS', qL', qR', qP')) : wpX_makeCounted post (xst, xow, xin, xpa, xfi, xfr, xno, xsi, xan, xkn, xen, xco, xrm, xac, K, N, Z, D, Im, W, P, vS, pO, pX, pI, fS, fP, fI, fU, fR, fO, fA, fH, fG, fN, aS, qL, qR, qP) := by
  subst eg
  have eg' : (nI g).toNatClampNeg = g := nI_clamp (by omega)
  have hin : vp_in (nI g) 600 := vp_in_nI hg (by omega)
  have hiq : vp_in (nI pq) 40 := vp_in_nI hpq (by omega)
  have his : vp_in (nI s) 653 := vp_in_nI hs (by omega)
  have hit : vp_in (nI t) 653 := vp_in_nI ht (by omega)
  have es : (nI s).toNatClampNeg = s := nI_clamp (by omega)
  have et : (nI t).toNatClampNeg = t := nI_clamp (by omega)
  subst ea
  have k199 : ¬ (κ = 3 ∧ κ' = 3) → wX_makeCounted_199 post (nI 26) (nI s) (nI t) xst xow xin xpa xfi xfr (nI g) xsi (nI t) xkn xen (nI (c + 1)) xrm xac K N Z D Im W P vS pO pX pI fS fP fI fU fR fO fA fH fG fN aS qL qR qP := by
    intro hn
    unfold wX_makeCounted_199
    rw [es, et, eK, eK']
    exact br_f (by decide) (he hn (by omega))
  unfold wpX_makeCounted
  dsimp only
  refine xr_counts ec hc ?_
  dsimp only
  rw [eg', eP, nI_clamp (show pq < 2 ^ 31 by omega), eO]
  refine br_f (by decide) ⟨hin, hiq, nm_e ⟨hin, nm_e ?_⟩⟩
  rw [eh, es, et, eK, eK']
  exact br_f (by decide) (br_f (by decide) (br_f (by decide) (br_f (by decide) (br_f (by decide) (br_f (by decide) (⟨his, pk_eq κ 3 (fun z => ⟨hit, pk_eq κ' 3 (fun z2 => ⟨his, hit, hN z z2 _ (hp (Or.inl ⟨z, z2⟩))⟩) (fun z2 => k199 (by omega))⟩) (fun z => k199 (by omega))⟩))))))
theorem xk_27 {xst xow xin xpa xfi xfr xno xsi xan xkn xen xco xrm xac : Int32} {K N Z D Im W P vS pO pX pI fS fP fI fU fR fO fA fH fG fN aS qL qR qP : Nat → Int32} {xst' xow' xin' xpa' xfi' xfr' xno' xsi' xan' xkn' xen' xco' xrm' xac' : Int32} {K' N' Z' D' Im' W' P' vS' pO' pX' pI' fS' fP' fI' fU' fR' fO' fA' fH' fG' fN' aS' qL' qR' qP' : Nat → Int32} {post : SX → Prop} {g pq c : Nat} (eg : xno = nI g) (hg : g < 600) (eP : fP g = nI pq) (hpq : pq < 40) (eO : pO pq = nI 27) (ec : xco = nI c) (hc : c < 600) {s t κ κ' : Nat} (eh : fH g = nI s) (ea : xan = nI t) (hs : s < 653) (ht : t < 653) (eK : K s = nI κ) (eK' : K t = nI κ') (hκ : κ ≤ 5) (hκ' : κ' ≤ 5) (hN : κ = 3 → κ' = 3 → ∀ Q : SX → Prop, Q (xst', xow', xin', xpa', xfi', xfr', xno', xsi', xan', xkn', xen', xco', xrm', xac', K', N', Z', D', Im', W', P', vS', pO', pX', pI', fS', fP', fI', fU', fR', fO', fA', fH', fG', fN', aS', qL', qR', qP') → wpX_makeNumber Q (xst, xow, xin, xpa, xfi, xfr, xno, xsi, xan, xkn, xen, (nI (c + 1)), xrm, xac, K, N, Z, D, Im, W, P, vS, pO, pX, pI, fS, fP, fI, fU, fR, fO, fA, fH, fG, fN, aS, qL, qR, qP) (nI 27) (N s) (N t)) (hW : 27 = 24 → κ = 4 → κ' = 4 → ∀ Q : SX → Prop, Q (xst', xow', xin', xpa', xfi', xfr', xno', xsi', xan', xkn', xen', xco', xrm', xac', K', N', Z', D', Im', W', P', vS', pO', pX', pI', fS', fP', fI', fU', fR', fO', fA', fH', fG', fN', aS', qL', qR', qP') → wpX_makeWithout Q (xst, xow, xin, xpa, xfi, xfr, xno, xsi, xan, xkn, xen, (nI (c + 1)), xrm, xac, K, N, Z, D, Im, W, P, vS, pO, pX, pI, fS, fP, fI, fU, fR, fO, fA, fH, fG, fN, aS, qL, qR, qP) (nI s) (nI t)) (he : ¬ (κ = 3 ∧ κ' = 3) → ¬ (27 = 24 ∧ κ = 4 ∧ κ' = 4) → post (xst, xow, xin, xpa, xfi, xfr, xno, 3, xan, xkn, xen, (nI (c + 1)), xrm, xac, K, N, Z, D, Im, W, P, vS, pO, pX, pI, fS, fP, fI, fU, fR, fO, fA, fH, fG, fN, aS, qL, qR, qP)) (hp : (κ = 3 ∧ κ' = 3) ∨ (27 = 24 ∧ κ = 4 ∧ κ' = 4) → post (xst', xow', xin', xpa', xfi', xfr', xno', xsi', xan', xkn', xen', xco', xrm', xac', K', N', Z', D', Im', W', P', vS', pO', pX', pI', fS', fP', fI', fU', fR', fO', fA', fH', fG', fN', aS', qL', qR', qP')) : wpX_makeCounted post (xst, xow, xin, xpa, xfi, xfr, xno, xsi, xan, xkn, xen, xco, xrm, xac, K, N, Z, D, Im, W, P, vS, pO, pX, pI, fS, fP, fI, fU, fR, fO, fA, fH, fG, fN, aS, qL, qR, qP) := by
  subst eg
  have eg' : (nI g).toNatClampNeg = g := nI_clamp (by omega)
  have hin : vp_in (nI g) 600 := vp_in_nI hg (by omega)
  have hiq : vp_in (nI pq) 40 := vp_in_nI hpq (by omega)
  have his : vp_in (nI s) 653 := vp_in_nI hs (by omega)
  have hit : vp_in (nI t) 653 := vp_in_nI ht (by omega)
  have es : (nI s).toNatClampNeg = s := nI_clamp (by omega)
  have et : (nI t).toNatClampNeg = t := nI_clamp (by omega)
  subst ea
  have k199 : ¬ (κ = 3 ∧ κ' = 3) → wX_makeCounted_199 post (nI 27) (nI s) (nI t) xst xow xin xpa xfi xfr (nI g) xsi (nI t) xkn xen (nI (c + 1)) xrm xac K N Z D Im W P vS pO pX pI fS fP fI fU fR fO fA fH fG fN aS qL qR qP := by
    intro hn
    unfold wX_makeCounted_199
    rw [es, et, eK, eK']
    exact br_f (by decide) (he hn (by omega))
  unfold wpX_makeCounted
  dsimp only
  refine xr_counts ec hc ?_
  dsimp only
  rw [eg', eP, nI_clamp (show pq < 2 ^ 31 by omega), eO]
  refine br_f (by decide) ⟨hin, hiq, nm_e ⟨hin, nm_e ?_⟩⟩
  rw [eh, es, et, eK, eK']
  exact br_f (by decide) (br_f (by decide) (br_f (by decide) (br_f (by decide) (br_f (by decide) (br_f (by decide) (⟨his, pk_eq κ 3 (fun z => ⟨hit, pk_eq κ' 3 (fun z2 => ⟨his, hit, hN z z2 _ (hp (Or.inl ⟨z, z2⟩))⟩) (fun z2 => k199 (by omega))⟩) (fun z => k199 (by omega))⟩))))))
