/-! ===== an array without another's ===== -/
def wo_n (fb : Nat → Bool) (k : Nat) : Nat := vv_sm (fun i => if fb i = true then 0 else 1) k
def wo_k (fb : Nat → Bool) (i : Nat) : Nat → Nat
  | 0 => 0
  | k + 1 => if fb k = false ∧ wo_n fb k = i then k else wo_k fb i k
theorem wo_s (fb : Nat → Bool) (k : Nat) : wo_n fb (k + 1) = wo_n fb k + (if fb k = true then 0 else 1) := rfl
theorem wo_u {fb : Nat → Bool} : ∀ {a b : Nat}, a ≤ b → wo_n fb a ≤ wo_n fb b := by
  intro a b
  induction b with
  | zero => intro h; have : a = 0 := by omega
            subst this; exact Nat.le_refl _
  | succ b ih =>
    intro h
    by_cases e : a = b + 1
    · subst e; exact Nat.le_refl _
    · have := ih (by omega)
      rw [wo_s]
      omega
theorem wo_le {fb : Nat → Bool} : ∀ k, wo_n fb k ≤ k
  | 0 => Nat.le_refl _
  | k + 1 => by
    have := wo_le (fb := fb) k
    rw [wo_s]
    split <;> omega
theorem wo_ku {fb : Nat → Bool} {i k : Nat} (hf : fb k = false) (hi : wo_n fb k = i) : ∀ m, k < m → wo_k fb i m = k := by
  intro m
  induction m with
  | zero => intro h; omega
  | succ m ih =>
    intro h
    rw [wo_k]
    by_cases e : m = k
    · subst e
      rw [if_pos ⟨hf, hi⟩]
    · rw [if_neg, ih (by omega)]
      intro w
      have h1 := wo_u (fb := fb) (a := k + 1) (b := m) (by omega)
      rw [wo_s, hf] at h1
      simp at h1
      omega
theorem wo_ex {fb : Nat → Bool} {i : Nat} : ∀ m, i < wo_n fb m → ∃ k, k < m ∧ fb k = false ∧ wo_n fb k = i := by
  intro m
  induction m with
  | zero => intro h; exact absurd h (by show ¬ i < 0; omega)
  | succ m ih =>
    intro h
    by_cases z : i < wo_n fb m
    · obtain ⟨k, a, b, c⟩ := ih z
      exact ⟨k, by omega, b, c⟩
    · rw [wo_s] at h
      cases hb : fb m with
      | true => rw [hb] at h; simp at h; omega
      | false =>
        rw [hb] at h
        simp at h
        exact ⟨m, by omega, hb, by omega⟩
/-- the order doesn't see what happens outside a closed set -/
theorem oo_st {V : Nat → Prop} {K N Z D Im W P K' N' Z' P' : Nat → Int32} (hx : vv_ox V K N Z D Im W P) (e : ∀ u, V u → K' u = K u ∧ N' u = N u ∧ Z' u = Z u ∧ ∀ i, i < 10 → P' (u * 10 + i) = P (u * 10 + i)) : ∀ d s t, V s → V t → oo_c (oo_h K' N') Z' P' d s t = oo_c (oo_h K N) Z P d s t := by
  have hh : ∀ s t, V s → V t → oo_h K' N' s t = oo_h K N s t := by
    intro s t hs ht
    obtain ⟨a1, a2, _⟩ := e s hs
    obtain ⟨b1, b2, _⟩ := e t ht
    unfold oo_h
    rw [a1, a2, b1, b2]
  intro d
  induction d with
  | zero => intro s t hs ht; exact hh s t hs ht
  | succ d ih =>
    intro s t hs ht
    obtain ⟨_, _, a3, a4⟩ := e s hs
    obtain ⟨_, _, b3, b4⟩ := e t ht
    obtain ⟨z, hz, ez, hc⟩ := vv_ox_z hx hs
    obtain ⟨z', hz', ez', hc'⟩ := vv_ox_z hx ht
    rw [oo_c, oo_c, hh s t hs ht, a3, b3, ez, ez', nI_clamp (by omega), nI_clamp (by omega)]
    have : oo_l (fun i => oo_c (oo_h K' N') Z' P' d (dp_ch P' s i) (dp_ch P' t i)) (oo_sg z z') (min z z') 0 = oo_l (fun i => oo_c (oo_h K N) Z P d (dp_ch P s i) (dp_ch P t i)) (oo_sg z z') (min z z') 0 := by
      apply oo_l_c
      intro i hi
      obtain ⟨c, c1, c2, c3⟩ := hc i (by omega)
      obtain ⟨c', d1, d2, d3⟩ := hc' i (by omega)
      show oo_c (oo_h K' N') Z' P' d (dp_ch P' s i) (dp_ch P' t i) = oo_c (oo_h K N) Z P d (dp_ch P s i) (dp_ch P t i)
      unfold dp_ch
      rw [a4 i (by omega), b4 i (by omega), c1, d1, nI_clamp (by omega), nI_clamp (by omega)]
      exact ih c c' c3 d3
    rw [this]
theorem xk_without {xst xow xin xpa xfi xfr xno xsi xan xkn xen xco xrm xac : Int32} {K N Z D Im W P vS pO pX pI fS fP fI fU fR fO fA fH fG fN aS qL qR qP : Nat → Int32} {V : Nat → Prop} {post : SX → Prop} {s t za zb rm : Nat} {fb : Nat → Bool} {c e q w : Nat → Nat} (hx : vv_ox V K N Z D Im W P) (hVs : V s) (hVt : V t) (er : xrm = nI rm) (hrm : rm < 600) (eZs : Z s = nI za) (eZt : Z t = nI zb) (hza : za ≤ 10) (hzb : zb ≤ 10)
    (hf : ∀ i, i < za → (fb i = true → ∃ j, j < zb ∧ oo_c (oo_h K N) Z P 4 (dp_ch P s i) (dp_ch P t j) = 0) ∧ (fb i = false → ∀ j, j < zb → ¬ oo_c (oo_h K N) Z P 4 (dp_ch P s i) (dp_ch P t j) = 0))
    (hc : ns_ch V D Im W (53 + rm) (wo_n fb za) (fun i => P (s * 10 + wo_k fb i za)) c e q w) (hne : ∀ u, V u → u ≠ 53 + rm)
    (hp : ∀ K' N' Z' D' Im' W' P' qL' qR' qP' : Nat → Int32, vv_ns (53 + rm) 4 (wo_n fb za) 0 0 (fun i => P (s * 10 + wo_k fb i za)) e q w K N Z D Im W P K' N' Z' D' Im' W' P' → post (xst, xow, xin, xpa, xfi, xfr, xno, 1, (nI (53 + rm)), xkn, xen, xco, (nI (rm + 1)), xac, K', N', Z', D', Im', W', P', vS, pO, pX, pI, fS, fP, fI, fU, fR, fO, fA, fH, fG, fN, aS, qL', qR', qP')) : wpX_makeWithout post (xst, xow, xin, xpa, xfi, xfr, xno, xsi, xan, xkn, xen, xco, xrm, xac, K, N, Z, D, Im, W, P, vS, pO, pX, pI, fS, fP, fI, fU, fR, fO, fA, fH, fG, fN, aS, qL, qR, qP) (nI s) (nI t) := by
  have hs := (hx s hVs).1
  have ht := (hx t hVt).1
  have his : vp_in (nI s) 653 := vp_in_nI hs (by omega)
  have hit : vp_in (nI t) 653 := vp_in_nI ht (by omega)
  have es : (nI s).toNatClampNeg = s := nI_clamp (by omega)
  have et : (nI t).toNatClampNeg = t := nI_clamp (by omega)
  have ns := hne s hVs
  have nt := hne t hVt
  have hwl := wo_le (fb := fb) za
  obtain ⟨z1, hz1, ez1, hcs⟩ := vv_ox_z hx hVs
  obtain ⟨z2, hz2, ez2, hct⟩ := vv_ox_z hx hVt
  have e1 : z1 = za := (nI_eq (by omega) (by omega)).mp (ez1.symm.trans eZs)
  have e2 : z2 = zb := (nI_eq (by omega) (by omega)).mp (ez2.symm.trans eZt)
  subst e1 e2
  unfold wpX_makeWithout
  dsimp only
  rw [es, et, eZs, eZt]
  refine ⟨his, nm_e ⟨hit, nm_e (xr_runSlot er (xm_setNested (by omega) ?_))⟩⟩
  have k32 : ∀ r i (Z' P' qL qR qP : Nat → Int32), i + r = z1 → (∀ u, u ≠ 53 + rm → Z' u = Z u ∧ ∀ j, j < 10 → P' (u * 10 + j) = P (u * 10 + j)) → Z' (53 + rm) = nI (wo_n fb i) → (∀ j, j < wo_n fb i → P' ((53 + rm) * 10 + j) = P (s * 10 + wo_k fb j z1)) →
      wX_makeWithout_32 post (nI s) (nI t) (nI z1) (nI z2) (nI (53 + rm)) (r + 1) (nI i) xst xow xin xpa xfi xfr xno xsi xan xkn xen xco (nI (rm + 1)) xac (upd K (53 + rm) 4) (upd N (53 + rm) 0) Z' D Im W P' vS pO pX pI fS fP fI fU fR fO fA fH fG fN aS qL qR qP := by
    intro r
    induction r with
    | zero =>
      intro i Z' P' qL qR qP hi ho eZ' eP'
      have hi' : i = z1 := by omega
      subst hi'
      unfold wX_makeWithout_32
      refine br_t (nI_le (Nat.le_refl _) (by omega)) ?_
      refine xm_ns (V := V) (c := c) (K0 := K) (N0 := N) (Z0 := Z) (P0 := P) (by omega) (by omega) (Or.inl ⟨rfl, rfl⟩) hc hne (fun u hu => ⟨pk_un hu, pk_un hu, (ho u hu).1, (ho u hu).2⟩) pk_us pk_us eZ' eP' (fun D' Im' W' hns => ?_)
      exact xr_give (hp _ _ _ _ _ _ _ _ _ _ hns)
    | succ r ih =>
      intro i Z' P' qL qR qP hi ho eZ' eP'
      obtain ⟨ci, a1, a2, a3⟩ := hcs i (by omega)
      have aci : dp_ch P s i = ci := by rw [dp_ch, a1, nI_clamp (by omega)]
      obtain ⟨f1, f2⟩ := hf i (by omega)
      rw [aci] at f1 f2
      have hu := wo_u (fb := fb) (a := i + 1) (b := z1) (by omega)
      have hsn := wo_s fb i
      -- the heap as it stands, on V
      have heq : vv_eq V K N Z D Im W P (upd K (53 + rm) 4) (upd N (53 + rm) 0) Z' D Im W P' := fun u hu => ⟨pk_un (hne u hu), pk_un (hne u hu), (ho u (hne u hu)).1, rfl, rfl, rfl, (ho u (hne u hu)).2⟩
      have hx' := vv_ox_eq hx heq
      have hst := oo_st (K' := upd K (53 + rm) 4) (N' := upd N (53 + rm) 0) (Z' := Z') (P' := P') hx (fun u hu => ⟨pk_un (hne u hu), pk_un (hne u hu), (ho u (hne u hu)).1, (ho u (hne u hu)).2⟩)
      have k108 : ∀ (x8 : Int32) (qL qR qP : Nat → Int32), (x8 = 0 → fb i = false) → (¬ x8 = 0 → fb i = true) → wX_makeWithout_108 post (wX_makeWithout_32 post (nI s) (nI t) (nI z1) (nI z2) (nI (53 + rm)) (r + 1)) (nI s) (nI t) (nI z1) (nI z2) (nI (53 + rm)) (nI i) (nI ci) x8 xst xow xin xpa xfi xfr xno xsi xan xkn xen xco (nI (rm + 1)) xac (upd K (53 + rm) 4) (upd N (53 + rm) 0) Z' D Im W P' vS pO pX pI fS fP fI fU fR fO fA fH fG fN aS qL qR qP := by
        intro x8 qL qR qP g0 g1
        unfold wX_makeWithout_108
        refine br_c (fun z => ?_) (fun z => nm_r (nI_1 i) ?_)
        · have hb := g0 z
          rw [hb, if_neg (by decide)] at hsn
          refine xm_addTo (z := wo_n fb i) (by omega) eZ' (by omega) (nm_r (nI_1 i) ?_)
          refine ih (i + 1) _ _ qL qR qP (by omega) (fun u hu => ⟨(pk_un hu).trans (ho u hu).1, fun j hj => (pk_un (vv_pl hu hj (by omega))).trans ((ho u hu).2 j hj)⟩) (by rw [pk_us, hsn]) (fun j hj => ?_)
          by_cases ej : j = wo_n fb i
          · subst ej
            rw [pk_us, wo_ku hb rfl z1 (by omega)]
            exact a1.symm
          · rw [pk_un (by omega)]
            exact eP' j (by omega)
        · have hb := g1 z
          rw [hb, if_pos rfl, Nat.add_zero] at hsn
          exact ih (i + 1) Z' P' qL qR qP (by omega) ho (by rw [hsn]; exact eZ') (by rw [hsn]; exact eP')
      have k58 : ∀ m j (qL qR qP : Nat → Int32), j + m = z2 → (∀ j', j' < j → ¬ oo_c (oo_h K N) Z P 4 ci (dp_ch P t j') = 0) → wX_makeWithout_58 post (wX_makeWithout_32 post (nI s) (nI t) (nI z1) (nI z2) (nI (53 + rm)) (r + 1)) (nI s) (nI t) (nI z1) (nI z2) (nI (53 + rm)) (nI i) (nI ci) (m + 2) 0 (nI j) xst xow xin xpa xfi xfr xno xsi xan xkn xen xco (nI (rm + 1)) xac (upd K (53 + rm) 4) (upd N (53 + rm) 0) Z' D Im W P' vS pO pX pI fS fP fI fU fR fO fA fH fG fN aS qL qR qP := by
        intro m
        induction m with
        | zero =>
          intro j qL qR qP hj hno
          unfold wX_makeWithout_58
          refine br_t (nI_le (by omega) (by omega)) (k108 0 qL qR qP (fun _ => ?_) (fun z => absurd rfl z))
          cases hb : fb i with
          | false => rfl
          | true =>
            obtain ⟨j', j1, j2⟩ := f1 hb
            exact absurd j2 (hno j' (by omega))
        | succ m ihm =>
          intro j qL qR qP hj hno
          obtain ⟨cj, b1, b2, b3⟩ := hct j (by omega)
          have bcj : dp_ch P t j = cj := by rw [dp_ch, b1, nI_clamp (by omega)]
          unfold wX_makeWithout_58
          rw [xi_10, nI_clamp (show t * 10 + j < 2 ^ 31 by omega), (ho t nt).2 j (by omega), b1]
          refine br_f (nI_ge (by omega) (by omega)) (br_t rfl ⟨vp_in_nI (by omega) (by omega), ?_⟩)
          refine xm_compared hx' a3 b3 (fun r qL' qR' qP' hsm => ?_)
          rw [hst 4 ci cj a3 b3] at hsm
          refine br_c (fun z => nm_r (nI_1 j) ?_) (fun z => nm_r (nI_1 j) ?_)
          · have hb : fb i = true := by
              cases hb : fb i with
              | true => rfl
              | false => exact absurd (hsm.1.mp z) (by have := f2 hb j (by omega); rw [bcj] at this; exact this)
            have := k108 1 qL' qR' qP' (fun z => absurd z (by decide)) (fun _ => hb)
            unfold wX_makeWithout_58
            exact br_c (fun _ => this) (fun _ => br_f (by decide) this)
          · refine ihm (j + 1) qL' qR' qP' (by omega) (fun j' hj' => ?_)
            by_cases ej : j' = j
            · subst ej
              rw [bcj]
              exact fun w => z (hsm.1.mpr w)
            · exact hno j' (by omega)
      unfold wX_makeWithout_32
      rw [xi_10, nI_clamp (show s * 10 + i < 2 ^ 31 by omega), (ho s ns).2 i (by omega), a1]
      exact br_f (nI_ge (by omega) (by omega)) ⟨vp_in_nI (by omega) (by omega), nm_e ⟨_, k58 z2 0 qL qR qP (by omega) (fun j hj => absurd hj (by omega))⟩⟩
  exact ⟨_, k32 z1 0 _ _ qL qR qP (by omega) (fun u hu => ⟨pk_un hu, fun _ _ => rfl⟩) pk_us (fun j hj => absurd hj (by show ¬ j < 0; omega))⟩
