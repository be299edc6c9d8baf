/-! ===== X compares ===== -/
section
variable {V : Nat → Prop} {K N Z D Im W P : Nat → Int32}
theorem oo_k_r (a : Nat) : oo_k a a = 0 := by unfold oo_k; rw [if_pos rfl]
theorem oo_h_r (s : Nat) : oo_h K N s s = 0 := by
  unfold oo_h
  rw [if_pos rfl]
  by_cases h3 : K s = 3
  · rw [if_pos h3, if_pos (Int32.le_refl _), if_pos (Int32.le_refl _)]
  · rw [if_neg h3]
    by_cases h5 : K s = 5
    · rw [if_pos h5, oo_k_r]
    · rw [if_neg h5]
/-- kinds of valid slots, and what their numbers are -/
theorem oo_kind (hx : vv_ox V K N Z D Im W P) {s : Nat} (hs : V s) : ∃ κ, κ ≤ 5 ∧ K s = nI κ ∧ (κ ≠ 3 → κ ≠ 5 → N s = 0) ∧ (κ = 5 → ∃ m, m < 256 ∧ N s = nI m) := by
  obtain ⟨_, ⟨k1, a1, a2, a3, a4⟩ | ⟨k1, z, dd, a1, a2, _, _, _, _, _, a8, a9, _⟩⟩ := hx s hs
  · exact ⟨k1, by omega, a2, fun z _ => a3 (by omega), fun z => absurd z (by omega)⟩
  · refine ⟨k1, a1.elim (fun w => by rw [w]; decide) (fun w => by rw [w]; decide), a2, fun _ z => a8 (a1.resolve_right z), fun z => ?_⟩
    obtain ⟨m, b1, b2, _⟩ := a9 z
    exact ⟨m, b1, b2⟩
end
theorem xm_headOrder {xst xow xin xpa xfi xfr xno xsi xan xkn xen xco xrm xac : Int32} {K N Z D Im W P vS pO pX pI fS fP fI fU fR fO fA fH fG fN aS qL qR qP : Nat → Int32} {V : Nat → Prop} {post : Int32 → Prop} {s t : Nat} (hx : vv_ox V K N Z D Im W P) (hs : V s) (ht : V t) (hp : post (oo_h K N s t)) : wpX_headOrder post (xst, xow, xin, xpa, xfi, xfr, xno, xsi, xan, xkn, xen, xco, xrm, xac, K, N, Z, D, Im, W, P, vS, pO, pX, pI, fS, fP, fI, fU, fR, fO, fA, fH, fG, fN, aS, qL, qR, qP) (nI s) (nI t) := by
  have s6 := (hx s hs).1
  have t6 := (hx t ht).1
  obtain ⟨κ, h5, eK, hN, hM⟩ := oo_kind hx hs
  obtain ⟨κ', h5', eK', hN', hM'⟩ := oo_kind hx ht
  have i1 : vp_in (nI s) 653 := vp_in_nI s6 (by omega)
  have i2 : vp_in (nI t) 653 := vp_in_nI t6 (by omega)
  unfold wpX_headOrder
  dsimp only
  rw [nI_clamp (show s < 2 ^ 31 by omega), nI_clamp (show t < 2 ^ 31 by omega)]
  unfold oo_h at hp
  refine ⟨i1, i2, br_c (fun e => ?_) (fun ne => ?_)⟩
  · rw [if_pos e] at hp
    refine ⟨i1, nm_e ⟨i2, nm_e (br_c (fun eN => ?_) (fun nN => ⟨i1, br_c (fun e3 => ?_) (fun n3 => ?_)⟩))⟩⟩
    · by_cases h3 : K s = 3
      · rw [if_pos h3, eN, if_pos (Int32.le_refl _), if_pos (Int32.le_refl _)] at hp
        exact hp
      · rw [if_neg h3] at hp
        by_cases h5 : K s = 5
        · rw [if_pos h5, eN, oo_k_r] at hp
          exact hp
        · rw [if_neg h5] at hp
          exact hp
    · rw [if_pos e3] at hp
      refine br_c (fun le => ?_) (fun nle => ?_)
      · rw [if_pos le, if_neg (fun le' => nN (Int32.le_antisymm le' le))] at hp
        exact hp
      · rw [if_neg nle] at hp
        exact hp
    · have e5 : κ = 5 := by
        rcases Nat.lt_or_ge κ 5 with z | z
        · have k3 : κ ≠ 3 := fun w => n3 (by rw [eK, w]; rfl)
          have kk : κ' = κ := (nI_eq (by omega) (by omega)).mp (eK'.symm.trans (e.symm.trans eK))
          exact absurd ((hN k3 (by omega)).trans (hN' (by omega) (by omega)).symm) nN
        · omega
      have kk : κ' = κ := (nI_eq (by omega) (by omega)).mp (eK'.symm.trans (e.symm.trans eK))
      obtain ⟨a, a1, a2⟩ := hM e5
      obtain ⟨b, b1, b2⟩ := hM' (by omega)
      rw [if_neg n3, if_pos (by rw [eK, e5]; rfl), a2, b2, nI_clamp (by omega), nI_clamp (by omega)] at hp
      rw [a2, b2]
      exact oo_k_x a1 b1 (fun w => nN (by rw [a2, b2, w])) hp
  · rw [if_neg ne] at hp
    refine ⟨i1, i2, br_c (fun le => ?_) (fun nle => ?_)⟩
    · rw [if_pos le] at hp
      exact hp
    · rw [if_neg nle] at hp
      exact hp
/-- two answers of a comparison mean the same -/
def oo_same (r q : Int32) : Prop := (r = 0 ↔ q = 0) ∧ (r < 0 ↔ q < 0)
theorem oo_same_r (r : Int32) : oo_same r r := ⟨Iff.rfl, Iff.rfl⟩
theorem oo_same_sg {a b : Nat} (ha : a ≤ 10) (hb : b ≤ 10) : oo_same (nI a - nI b) (oo_sg a b) := by
  have h : (nI a - nI b).toInt = (a : Int) - b := pk_sub_toInt (by omega) (by omega)
  unfold oo_same oo_sg
  have z0 : (0 : Int32).toInt = 0 := by decide
  have e1 : nI a - nI b = 0 ↔ a = b := by
    constructor
    · intro e
      have := congrArg Int32.toInt e
      omega
    · intro e
      apply Int32.toInt_inj.mp
      omega
  have e2 : nI a - nI b < 0 ↔ a < b := by
    rw [Int32.lt_iff_toInt_lt]
    omega
  rw [e1, e2]
  rcases Nat.lt_trichotomy a b with z | z | z
  · rw [if_pos z]
    exact ⟨⟨fun w => absurd w (by omega), fun w => absurd w (by decide)⟩, ⟨fun _ => by decide, fun _ => z⟩⟩
  · rw [if_neg (by omega), if_neg (by omega)]
    exact ⟨⟨fun _ => rfl, fun _ => z⟩, ⟨fun w => absurd w (by omega), fun w => absurd w (by decide)⟩⟩
  · rw [if_neg (by omega), if_pos z]
    exact ⟨⟨fun w => absurd w (by omega), fun w => absurd w (by decide)⟩, ⟨fun w => absurd w (by omega), fun w => absurd w (by decide)⟩⟩
/-- the steps that a pair may take -/
def oo_T : Nat → Nat
  | 0 => 1
  | d + 1 => 10 * (1 + oo_T d) + 1
/-- what is still to be compared of a pair from place q on -/
def oo_r (K N Z P : Nat → Int32) (dd s t q : Nat) : Int32 :=
  oo_l (fun i => oo_c (oo_h K N) Z P (dd - 1) (dp_ch P s i) (dp_ch P t i)) (oo_sg (Z s).toNatClampNeg (Z t).toNatClampNeg) (min (Z s).toNatClampNeg (Z t).toNatClampNeg - q) q
