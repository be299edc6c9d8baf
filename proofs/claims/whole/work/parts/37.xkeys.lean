/-! ===== keys ===== -/
def ky_k (m i : Nat) : Nat → Nat
  | 0 => 0
  | k + 1 => if m / 2 ^ k % 2 = 1 ∧ vv_pc m k = i then k else ky_k m i k
theorem ky_t : ∀ m, m < 256 → ∀ i, i < 8 → i < vv_pc m 8 → (ky_k m i 8 < 8 ∧ m / 2 ^ ky_k m i 8 % 2 = 1 ∧ vv_pc m (ky_k m i 8) = i) := by decide +kernel
theorem vv_pc_s (m k : Nat) : vv_pc m (k + 1) = vv_pc m k + m / 2 ^ k % 2 := rfl
theorem vv_pc_u {m : Nat} : ∀ {a b : Nat}, a ≤ b → vv_pc m a ≤ vv_pc m b := by
  intro a b
  induction b with
  | zero => intro h; have : a = 0 := by omega
            subst this; exact Nat.le_refl _
  | succ b ih =>
    intro h
    by_cases e : a = b + 1
    · subst e; exact Nat.le_refl _
    · have := ih (by omega)
      rw [vv_pc_s]
      omega
theorem vv_pc_8' {m : Nat} : vv_pc m 8 ≤ 8 := by
  have := vv_sm_le (f := fun i => m / 2 ^ i % 2) (b := 1) 8 (fun i _ => by show m / 2 ^ i % 2 ≤ 1; omega)
  unfold vv_pc
  omega
theorem xm_keyAt {post : Int32 → Prop} {m i k : Nat} (hm : m < 256) (hk : k < 8) (hb : m / 2 ^ k % 2 = 1) (hi : vv_pc m k = i) (hp : post (nI k)) : wpX_keyAt post (nI m) (nI i) := by
  have h8 := vv_pc_8' (m := m)
  have key : ∀ r j, j + r = k → wX_keyAt_4 post (nI m) (nI i) (r + 1) (nI (vv_pc m j)) (nI j) := by
    intro r
    induction r with
    | zero =>
      intro j hj
      have hj' : j = k := by omega
      subst hj'
      unfold wX_keyAt_4
      rw [kb_bit (by omega) (by omega), hb, hi]
      exact br_f (nI_ge (b := 8) hk (by omega)) (br_t rfl (br_t rfl hp))
    | succ r ih =>
      intro j hj
      have hle := vv_pc_u (m := m) (a := j + 1) (b := k) (by omega)
      have hlt := vv_pc_u (m := m) (a := k) (b := 8) (by omega)
      have hs := vv_pc_s m j
      have nx := ih (j + 1) (by omega)
      unfold wX_keyAt_4
      rw [kb_bit (by omega) (by omega)]
      refine br_f (nI_ge (b := 8) (by omega) (by omega)) (pk_eq (m / 2 ^ j % 2) 1 (fun e => ?_) (fun e => ?_))
      · refine br_f (fun z => absurd ((nI_eq (by omega) (by omega)).mp z) (by omega)) (nm_r (nI_1 _) (nm_r (nI_1 j) ?_))
        rw [hs, e] at nx
        exact nx
      · refine nm_r (nI_1 j) ?_
        rw [hs, show m / 2 ^ j % 2 = 0 by omega, Nat.add_zero] at nx
        exact nx
  unfold wpX_keyAt
  exact ⟨_, key k 0 (by omega)⟩
theorem xl_keys {xst xow xin xpa xfi xfr xno xsi xan xkn xen xco xrm xac : Int32} {K N Z D Im W P vS pO pX pI fS fP fI fU fR fO fA fH fG fN aS qL qR qP : Nat → Int32} {V : Nat → Prop} {post : SX → Prop} {s κ z rm : Nat} {ke : Nat → Nat} {c e q w : Nat → Nat} (hs : s < 653) (eK : K s = nI κ) (hκ : κ ≤ 5) (er : xrm = nI rm) (hrm : rm < 600) (eZ : Z s = nI z) (hz : z ≤ 10) (hne' : s ≠ 53 + rm) (hk4 : κ = 4 → ∀ i, i < z → ke i = i)
    (hk5 : κ = 5 → ∃ m, m < 256 ∧ N s = nI m ∧ z = vv_pc m 8 ∧ ∀ i, i < z → ke i < 8 ∧ m / 2 ^ ke i % 2 = 1 ∧ vv_pc m (ke i) = i) (hc : ns_ch V D Im W (53 + rm) z (fun i => nI (3 + ke i)) c e q w) (hne : ∀ t, V t → t ≠ 53 + rm)
    (h3 : κ ≤ 3 → post (xst, xow, xin, xpa, xfi, xfr, xno, 3, xan, xkn, xen, xco, xrm, xac, K, N, Z, D, Im, W, P, vS, pO, pX, pI, fS, fP, fI, fU, fR, fO, fA, fH, fG, fN, aS, qL, qR, qP))
    (hp : 3 < κ → ∀ K' N' Z' D' Im' W' P' : Nat → Int32, vv_ns (53 + rm) 4 z 0 0 (fun i => nI (3 + ke i)) e q w K N Z D Im W P K' N' Z' D' Im' W' P' → post (xst, xow, xin, xpa, xfi, xfr, xno, 1, (nI (53 + rm)), xkn, xen, xco, (nI (rm + 1)), xac, K', N', Z', D', Im', W', P', vS, pO, pX, pI, fS, fP, fI, fU, fR, fO, fA, fH, fG, fN, aS, qL, qR, qP)) : wpX_giveKeys post (xst, xow, xin, xpa, xfi, xfr, xno, xsi, xan, xkn, xen, xco, xrm, xac, K, N, Z, D, Im, W, P, vS, pO, pX, pI, fS, fP, fI, fU, fR, fO, fA, fH, fG, fN, aS, qL, qR, qP) (nI s) := by
  have his : vp_in (nI s) 653 := vp_in_nI hs (by omega)
  have es : (nI s).toNatClampNeg = s := nI_clamp (by omega)
  unfold wpX_giveKeys
  dsimp only
  rw [es, eK]
  refine ⟨his, pk_lt 3 κ (fun k3 => ?_) (fun k3 => h3 k3)⟩
  refine xr_runSlot er ⟨his, ?_⟩
  dsimp only
  rw [eZ]
  refine nm_e (xm_setNested (by omega) ?_)
  have k38 : ∀ r i (Z' P' : Nat → Int32), i + r = z → (∀ t, t ≠ 53 + rm → Z' t = Z t ∧ ∀ j, j < 10 → P' (t * 10 + j) = P (t * 10 + j)) → Z' (53 + rm) = nI i → (∀ j, j < i → P' ((53 + rm) * 10 + j) = nI (3 + ke j)) →
      wX_giveKeys_38 post (nI s) (nI (53 + rm)) (nI z) (r + 1) (nI i) xst xow xin xpa xfi xfr xno xsi xan xkn xen xco (nI (rm + 1)) xac (upd K (53 + rm) 4) (upd N (53 + rm) 0) Z' D Im W P' vS pO pX pI fS fP fI fU fR fO fA fH fG fN aS qL qR qP := by
    intro r
    induction r with
    | zero =>
      intro i Z' P' hi ho eZ' eP'
      have hi' : i = z := by omega
      subst hi'
      unfold wX_giveKeys_38
      refine br_t (nI_le (Nat.le_refl _) (by omega)) ?_
      refine xm_ns (V := V) (c := c) (K0 := K) (N0 := N) (Z0 := Z) (P0 := P) (by omega) hz (Or.inl ⟨rfl, rfl⟩) hc hne (fun t ht => ⟨pk_un ht, pk_un ht, (ho t ht).1, (ho t ht).2⟩) pk_us pk_us eZ' eP' (fun D' Im' W' hns => ?_)
      exact xr_give (hp k3 _ _ _ _ _ _ _ hns)
    | succ r ih =>
      intro i Z' P' hi ho eZ' eP'
      have k70 : ∀ x : Int32, x = nI (ke i) → wX_giveKeys_70 post (wX_giveKeys_38 post (nI s) (nI (53 + rm)) (nI z) (r + 1)) (nI s) (nI (53 + rm)) (nI z) (nI i) x xst xow xin xpa xfi xfr xno xsi xan xkn xen xco (nI (rm + 1)) xac (upd K (53 + rm) 4) (upd N (53 + rm) 0) Z' D Im W P' vS pO pX pI fS fP fI fU fR fO fA fH fG fN aS qL qR qP := by
        intro x hx
        subst hx
        unfold wX_giveKeys_70
        rw [show (3 : Int32) + nI (ke i) = nI (3 + ke i) from nI_add 3 (ke i)]
        refine xm_addTo (z := i) (by omega) eZ' (by omega) (nm_r (nI_1 i) ?_)
        refine ih (i + 1) _ _ (by omega) (fun t ht => ⟨(pk_un ht).trans (ho t ht).1, fun j hj => (pk_un (vv_pl ht hj (by omega))).trans ((ho t ht).2 j hj)⟩) pk_us (fun j hj => ?_)
        by_cases ej : j = i
        · subst ej; rw [pk_us]
        · rw [pk_un (by omega)]; exact eP' j (by omega)
      unfold wX_giveKeys_38
      rw [es, pk_un hne', eK, pk_un hne']
      refine br_f (nI_ge (by omega) (by omega)) ⟨his, pk_eq κ 4 (fun e4 => k70 _ (by rw [hk4 e4 i (by omega)])) (fun n4 => ⟨his, ?_⟩)⟩
      obtain ⟨m, m1, m2, m3, m4⟩ := hk5 (by omega)
      obtain ⟨a1, a2, a3⟩ := m4 i (by omega)
      rw [m2]
      exact xm_keyAt m1 a1 a2 a3 (k70 _ rfl)
  exact ⟨_, k38 z 0 _ _ (by omega) (fun t ht => ⟨pk_un ht, fun _ _ => rfl⟩) pk_us (fun j hj => absurd hj (by omega))⟩
