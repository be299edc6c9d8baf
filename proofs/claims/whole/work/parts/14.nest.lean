/-! ===== a new nested value ===== -/
def vv_ns (s κ z kk : Nat) (key : Int32) (ch : Nat → Int32) (e q w : Nat → Nat) (K N Z D Im W P K' N' Z' D' Im' W' P' : Nat → Int32) : Prop :=
  (∀ t, t ≠ s → K' t = K t ∧ N' t = N t ∧ Z' t = Z t ∧ D' t = D t ∧ Im' t = Im t ∧ W' t = W t ∧ ∀ i, i < 10 → P' (t * 10 + i) = P (t * 10 + i)) ∧
  K' s = nI κ ∧ N' s = key ∧ Z' s = nI z ∧ D' s = nI (vv_mx e z + 1) ∧ Im' s = nI (2 + vv_sm (fun i => kk + q i) z) ∧ W' s = nI (1 + vv_sm w z) ∧ ∀ i, i < z → P' (s * 10 + i) = ch i
section
variable {V : Nat → Prop} {K N Z D Im W P K' N' Z' D' Im' W' P' : Nat → Int32} {s κ z kk : Nat} {key : Int32} {ch : Nat → Int32} {e q w : Nat → Nat}
theorem ns_eq (h : vv_ns s κ z kk key ch e q w K N Z D Im W P K' N' Z' D' Im' W' P') (hV : ∀ t, V t → t ≠ s) : vv_eq V K N Z D Im W P K' N' Z' D' Im' W' P' := fun t ht => h.1 t (hV t ht)
/-- what is asked of the values that come into a new one -/
def ns_ch (V : Nat → Prop) (D Im W : Nat → Int32) (s z : Nat) (ch : Nat → Int32) (c e q w : Nat → Nat) : Prop :=
  ∀ i, i < z → ch i = nI (c i) ∧ c i < 653 ∧ V (c i) ∧ (s < 53 → c i < 53) ∧ D (c i) = nI (e i) ∧ e i ≤ 4 ∧ Im (c i) = nI (q i) ∧ q i ≤ 23332 ∧ W (c i) = nI (w i) ∧ w i ≤ 23332
theorem ns_ex (hx : vv_ox V K N Z D Im W P) {s z : Nat} {ch : Nat → Int32} (h : ∀ i, i < z → ∃ c, ch i = nI c ∧ V c ∧ (s < 53 → c < 53)) : ∃ c e q w : Nat → Nat, ns_ch V D Im W s z ch c e q w := by
  have h' : ∀ i, ∃ c e q w : Nat, i < z → ch i = nI c ∧ c < 653 ∧ V c ∧ (s < 53 → c < 53) ∧ D c = nI e ∧ e ≤ 4 ∧ Im c = nI q ∧ q ≤ 23332 ∧ W c = nI w ∧ w ≤ 23332 := by
    intro i
    by_cases hi : i < z
    · obtain ⟨c, a, b, b'⟩ := h i hi
      obtain ⟨e, e4, ee⟩ := vv_D hx b
      obtain ⟨⟨q, q1, _, q3⟩, ⟨w, w1, _, w3⟩⟩ := vv_IW4 hx b
      exact ⟨c, e, q, w, fun _ => ⟨a, (hx c b).1, b, b', ee, e4, q1, q3, w1, w3⟩⟩
    · exact ⟨0, 0, 0, 0, fun z => absurd z hi⟩
  exact ⟨fun i => (h' i).choose, fun i => (h' i).choose_spec.choose, fun i => (h' i).choose_spec.choose_spec.choose, fun i => (h' i).choose_spec.choose_spec.choose_spec.choose, fun i hi => (h' i).choose_spec.choose_spec.choose_spec.choose_spec hi⟩
theorem ns_ox (hx : vv_ox V K N Z D Im W P) (h : vv_ns s κ z kk key ch e q w K N Z D Im W P K' N' Z' D' Im' W' P') (hV : ∀ t, V t → t ≠ s) (hs : s < 653) {c : Nat → Nat} (hc : ns_ch V D Im W s z ch c e q w) (hz : z ≤ 10) (hm : vv_mx e z ≤ 3)
    (h4 : (κ = 4 ∧ kk = 0 ∧ key = 0) ∨ (κ = 5 ∧ kk = 1 ∧ ∃ m, m < 256 ∧ key = nI m ∧ z = vv_pc m 8)) : vv_ox (fun t => V t ∨ t = s) K' N' Z' D' Im' W' P' := by
  have heq := ns_eq h hV
  obtain ⟨_, a1, a2, a3, a4, a5, a6, a7⟩ := h
  refine vv_ox_add hx heq hs (Or.inr ⟨κ, z, vv_mx e z, by omega, a1, a3, hz, a4, by omega, fun i hi => ?_, fun k4 => ?_, fun k5 => ?_, ?_, ?_⟩)
  · obtain ⟨c1, c2, c3, c4, c5, c6, _⟩ := hc i hi
    exact ⟨c i, (a7 i hi).trans c1, c2, Or.inl c3, c4, e i, vv_mx_ge hi, (heq _ c3).2.2.2.1.trans c5⟩
  · rcases h4 with ⟨_, _, x⟩ | ⟨x, _⟩
    · rw [a2, x]
    · omega
  · rcases h4 with ⟨x, _⟩ | ⟨_, _, m, x1, x2, x3⟩
    · omega
    · exact ⟨m, x1, a2.trans x2, x3⟩
  · rw [a5]
    congr 2
    apply vv_sm_c
    intro i hi
    obtain ⟨c1, c2, c3, c4, c5, c6, c7, c8, _⟩ := hc i hi
    show kk + q i = κ - 4 + (Im' (P' (s * 10 + i)).toNatClampNeg).toNatClampNeg
    rw [a7 i hi, c1, nI_clamp (by omega), (heq _ c3).2.2.2.2.1, c7, nI_clamp (by omega)]
    omega
  · rw [a6]
    congr 2
    apply vv_sm_c
    intro i hi
    obtain ⟨c1, c2, c3, c4, c5, c6, c7, c8, c9, c10⟩ := hc i hi
    show w i = (W' (P' (s * 10 + i)).toNatClampNeg).toNatClampNeg
    rw [a7 i hi, c1, nI_clamp (by omega), (heq _ c3).2.2.2.2.2.1, c9, nI_clamp (by omega)]
end
/-- X has set the slot's kind, keys and places; what measure makes of it -/
theorem xm_ns {xst xow xin xpa xfi xfr xno xsi xan xkn xen xco xrm xac : Int32} {K N Z D Im W P vS pO pX pI fS fP fI fU fR fO fA fH fG fN aS qL qR qP : Nat → Int32} {post : SX → Prop} {s κ z kk : Nat} {key : Int32} {ch : Nat → Int32} {c e q w : Nat → Nat} {K0 N0 Z0 P0 : Nat → Int32} {V : Nat → Prop} (hs : s < 653) (hz : z ≤ 10) (hk : (κ = 4 ∧ kk = 0) ∨ (κ = 5 ∧ kk = 1)) (hc : ns_ch V D Im W s z ch c e q w) (hne : ∀ t, V t → t ≠ s)
    (ho : ∀ t, t ≠ s → K t = K0 t ∧ N t = N0 t ∧ Z t = Z0 t ∧ ∀ i, i < 10 → P (t * 10 + i) = P0 (t * 10 + i)) (eK : K s = nI κ) (eN : N s = key) (eZ : Z s = nI z) (eP : ∀ i, i < z → P (s * 10 + i) = ch i)
    (hp : ∀ D' Im' W' : Nat → Int32, vv_ns s κ z kk key ch e q w K0 N0 Z0 D Im W P0 K N Z D' Im' W' P → post (xst, xow, xin, xpa, xfi, xfr, xno, xsi, xan, xkn, xen, xco, xrm, xac, K, N, Z, D', Im', W', P, vS, pO, pX, pI, fS, fP, fI, fU, fR, fO, fA, fH, fG, fN, aS, qL, qR, qP)) : wpX_measure post (xst, xow, xin, xpa, xfi, xfr, xno, xsi, xan, xkn, xen, xco, xrm, xac, K, N, Z, D, Im, W, P, vS, pO, pX, pI, fS, fP, fI, fU, fR, fO, fA, fH, fG, fN, aS, qL, qR, qP) (nI s) := by
  refine xm_measure (kk := kk) (c := c) (e := e) (q := q) (w := w) hs hz ?_ eZ (fun i hi => ?_) (hp _ _ _ ⟨fun t ht => ?_, eK, eN, eZ, pk_us, pk_us, pk_us, eP⟩)
  · rcases hk with ⟨a, b⟩ | ⟨a, b⟩
    · exact Or.inr ⟨fun z => absurd ((nI_eq (b := 5) (by omega) (by omega)).mp (eK.symm.trans z)) (by omega), b⟩
    · exact Or.inl ⟨by rw [eK, a]; rfl, b⟩
  · obtain ⟨c1, c2, c3, c4, c5, c6, c7, c8, c9, c10⟩ := hc i hi
    exact ⟨(eP i hi).trans c1, c2, c5, c6, c7, c8, c9, c10⟩
  · obtain ⟨x1, x2, x3, x4⟩ := ho t ht
    exact ⟨x1, x2, x3, pk_un ht, pk_un ht, pk_un ht, x4⟩
