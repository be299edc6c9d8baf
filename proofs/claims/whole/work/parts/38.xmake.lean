/-! ===== X: values that are made ===== -/
theorem xk_joined {xst xow xin xpa xfi xfr xno xsi xan xkn xen xco xrm xac : Int32} {K N Z D Im W P vS pO pX pI fS fP fI fU fR fO fA fH fG fN aS qL qR qP : Nat → Int32} {V : Nat → Prop} {post : SX → Prop} {s t za zb rm : Nat} {c e q w : Nat → Nat} (hs : s < 653) (ht : t < 653) (er : xrm = nI rm) (hrm : rm < 600) (eZs : Z s = nI za) (eZt : Z t = nI zb) (hza : za ≤ 10) (hzb : zb ≤ 10) (ns : s ≠ 53 + rm) (nt : t ≠ 53 + rm)
    (hc : za + zb ≤ 10 → ns_ch V D Im W (53 + rm) (za + zb) (fun i => if i < za then P (s * 10 + i) else P (t * 10 + (i - za))) c e q w) (hne : ∀ u, V u → u ≠ 53 + rm)
    (h3 : 10 < za + zb → post (xst, xow, xin, xpa, xfi, xfr, xno, 3, xan, xkn, xen, xco, xrm, xac, K, N, Z, D, Im, W, P, vS, pO, pX, pI, fS, fP, fI, fU, fR, fO, fA, fH, fG, fN, aS, qL, qR, qP))
    (hp : za + zb ≤ 10 → ∀ K' N' Z' D' Im' W' P' : Nat → Int32, vv_ns (53 + rm) 4 (za + zb) 0 0 (fun i => if i < za then P (s * 10 + i) else P (t * 10 + (i - za))) e q w K N Z D Im W P K' N' Z' D' Im' W' P' → post (xst, xow, xin, xpa, xfi, xfr, xno, 1, (nI (53 + rm)), xkn, xen, xco, (nI (rm + 1)), xac, K', N', Z', D', Im', W', P', vS, pO, pX, pI, fS, fP, fI, fU, fR, fO, fA, fH, fG, fN, aS, qL, qR, qP)) : wpX_makeJoined post (xst, xow, xin, xpa, xfi, xfr, xno, xsi, xan, xkn, xen, xco, xrm, xac, K, N, Z, D, Im, W, P, vS, pO, pX, pI, fS, fP, fI, fU, fR, fO, fA, fH, fG, fN, aS, qL, qR, qP) (nI s) (nI t) := by
  have his : vp_in (nI s) 653 := vp_in_nI hs (by omega)
  have hit : vp_in (nI t) 653 := vp_in_nI ht (by omega)
  have es : (nI s).toNatClampNeg = s := nI_clamp (by omega)
  have et : (nI t).toNatClampNeg = t := nI_clamp (by omega)
  unfold wpX_makeJoined
  dsimp only
  rw [es, et, eZs, eZt]
  refine ⟨his, nm_e ⟨hit, nm_e ?_⟩⟩
  rw [nI_add]
  refine pk_le (za + zb) 10 (fun hle => ?_) (fun hgt => h3 hgt)
  refine xr_runSlot er (xm_setNested (by omega) ?_)
  have k80 : ∀ r i (Z' P' : Nat → Int32), i + r = zb → (∀ u, u ≠ 53 + rm → Z' u = Z u ∧ ∀ j, j < 10 → P' (u * 10 + j) = P (u * 10 + j)) → Z' (53 + rm) = nI (za + i) → (∀ j, j < za + i → P' ((53 + rm) * 10 + j) = if j < za then P (s * 10 + j) else P (t * 10 + (j - za))) →
      wX_makeJoined_80 post (nI t) (nI zb) (nI (53 + rm)) (r + 1) (nI i) xst xow xin xpa xfi xfr xno xsi xan xkn xen xco (nI (rm + 1)) xac (upd K (53 + rm) 4) (upd N (53 + rm) 0) Z' D Im W P' vS pO pX pI fS fP fI fU fR fO fA fH fG fN aS qL qR qP := by
    intro r
    induction r with
    | zero =>
      intro i Z' P' hi ho eZ' eP'
      have hi' : i = zb := by omega
      subst hi'
      unfold wX_makeJoined_80
      refine br_t (nI_le (Nat.le_refl _) (by omega)) ?_
      refine xm_ns (V := V) (c := c) (K0 := K) (N0 := N) (Z0 := Z) (P0 := P) (by omega) hle (Or.inl ⟨rfl, rfl⟩) (hc hle) hne (fun u hu => ⟨pk_un hu, pk_un hu, (ho u hu).1, (ho u hu).2⟩) pk_us pk_us eZ' eP' (fun D' Im' W' hns => ?_)
      exact xr_give (hp hle _ _ _ _ _ _ _ hns)
    | succ r ih =>
      intro i Z' P' hi ho eZ' eP'
      unfold wX_makeJoined_80
      rw [xi_10, nI_clamp (show t * 10 + i < 2 ^ 31 by omega), (ho t nt).2 i (by omega)]
      refine br_f (nI_ge (by omega) (by omega)) ⟨vp_in_nI (by omega) (by omega), ?_⟩
      refine xm_addTo (z := za + i) (by omega) eZ' (by omega) (nm_r (nI_1 i) ?_)
      refine ih (i + 1) _ _ (by omega) (fun u hu => ⟨(pk_un hu).trans (ho u hu).1, fun j hj => (pk_un (vv_pl hu hj (by omega))).trans ((ho u hu).2 j hj)⟩) (by rw [pk_us]; rfl) (fun j hj => ?_)
      by_cases ej : j = za + i
      · subst ej
        rw [pk_us, if_neg (by omega), show za + i - za = i by omega]
      · rw [pk_un (by omega)]; exact eP' j (by omega)
  have k47 : ∀ r i (Z' P' : Nat → Int32), i + r = za → (∀ u, u ≠ 53 + rm → Z' u = Z u ∧ ∀ j, j < 10 → P' (u * 10 + j) = P (u * 10 + j)) → Z' (53 + rm) = nI i → (∀ j, j < i → P' ((53 + rm) * 10 + j) = P (s * 10 + j)) →
      wX_makeJoined_47 post (nI s) (nI t) (nI za) (nI zb) (nI (53 + rm)) (r + 1) (nI i) xst xow xin xpa xfi xfr xno xsi xan xkn xen xco (nI (rm + 1)) xac (upd K (53 + rm) 4) (upd N (53 + rm) 0) Z' D Im W P' vS pO pX pI fS fP fI fU fR fO fA fH fG fN aS qL qR qP := by
    intro r
    induction r with
    | zero =>
      intro i Z' P' hi ho eZ' eP'
      have hi' : i = za := by omega
      subst hi'
      unfold wX_makeJoined_47
      refine br_t (nI_le (Nat.le_refl _) (by omega)) ⟨_, k80 zb 0 Z' P' (by omega) ho eZ' (fun j hj => ?_)⟩
      rw [if_pos (show j < i by omega)]
      exact eP' j (by omega)
    | succ r ih =>
      intro i Z' P' hi ho eZ' eP'
      unfold wX_makeJoined_47
      rw [xi_10, nI_clamp (show s * 10 + i < 2 ^ 31 by omega), (ho s ns).2 i (by omega)]
      refine br_f (nI_ge (by omega) (by omega)) ⟨vp_in_nI (by omega) (by omega), ?_⟩
      refine xm_addTo (z := i) (by omega) eZ' (by omega) (nm_r (nI_1 i) ?_)
      refine ih (i + 1) _ _ (by omega) (fun u hu => ⟨(pk_un hu).trans (ho u hu).1, fun j hj => (pk_un (vv_pl hu hj (by omega))).trans ((ho u hu).2 j hj)⟩) pk_us (fun j hj => ?_)
      by_cases ej : j = i
      · subst ej; rw [pk_us]
      · rw [pk_un (by omega)]; exact eP' j (by omega)
  exact ⟨_, k47 za 0 _ _ (by omega) (fun u hu => ⟨pk_un hu, fun _ _ => rfl⟩) pk_us (fun j hj => absurd hj (by omega))⟩
/-! objects are merged -/
theorem nx_or (a b : Nat) : nI a ||| nI b = nI (a ||| b) := by
  apply Int32.toBitVec_inj.1
  show BitVec.ofNat 32 a ||| BitVec.ofNat 32 b = BitVec.ofNat 32 (a ||| b)
  apply BitVec.eq_of_getLsbD_eq
  intro i hi
  simp [hi]
theorem or_bit (a b i : Nat) : (a ||| b) / 2 ^ i % 2 = if a / 2 ^ i % 2 = 1 ∨ b / 2 ^ i % 2 = 1 then 1 else 0 := by
  have h := Nat.testBit_or a b i
  rw [Nat.testBit_eq_decide_div_mod_eq, Nat.testBit_eq_decide_div_mod_eq, Nat.testBit_eq_decide_div_mod_eq] at h
  generalize (a ||| b) / 2 ^ i = x at *
  generalize a / 2 ^ i = y at *
  generalize b / 2 ^ i = z at *
  rcases Nat.mod_two_eq_zero_or_one x with hx | hx <;> rcases Nat.mod_two_eq_zero_or_one y with hy | hy <;> rcases Nat.mod_two_eq_zero_or_one z with hz | hz <;> simp [hx, hy, hz] at h ⊢
theorem or_lt {a b : Nat} (ha : a < 256) (hb : b < 256) : a ||| b < 256 := Nat.or_lt_two_pow (n := 8) ha hb
theorem ky_u {m i k : Nat} (hm : m < 256) (hk : k < 8) (hb : m / 2 ^ k % 2 = 1) (hi : vv_pc m k = i) : ky_k m i 8 = k := by
  have h8 := vv_pc_u (m := m) (a := k + 1) (b := 8) (by omega)
  have hs := vv_pc_s m k
  have h9 := vv_pc_8' (m := m)
  obtain ⟨a1, a2, a3⟩ := ky_t m hm i (by omega) (by omega)
  rcases Nat.lt_trichotomy (ky_k m i 8) k with z | z | z
  · have := vv_pc_u (m := m) (a := ky_k m i 8 + 1) (b := k) z
    have := vv_pc_s m (ky_k m i 8)
    omega
  · exact z
  · have := vv_pc_u (m := m) (a := k + 1) (b := ky_k m i 8) z
    omega
/-- the value of a key in two objects, the second's first -/
def mg_c (P : Nat → Int32) (s t ml mr i : Nat) : Int32 :=
  if mr / 2 ^ ky_k (ml ||| mr) i 8 % 2 = 1 then P (t * 10 + vv_pc mr (ky_k (ml ||| mr) i 8)) else P (s * 10 + vv_pc ml (ky_k (ml ||| mr) i 8))
