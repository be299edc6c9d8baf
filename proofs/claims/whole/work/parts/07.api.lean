/-! ===== the calls that make no run ===== -/
theorem rl_not45 {K : Nat → Int32} {s κ κ' : Nat} (h : K s = nI κ) (h' : K s = nI κ') (hκ : κ < 16) (hκ' : κ' < 16) : κ = κ' := (nI_eq (by omega) (by omega)).mp (h.symm.trans h')
section
variable {V : Nat → Prop} {K N Z D Im W P K' N' Z' D' Im' W' P' : Nat → Int32} {o l kS d : Nat → Int32} {pl : Nat → Int64} {mk pd : Nat}
/-- a valid slot of a plain kind -/
theorem rl_plain (hx : vv_ox V K N Z D Im W P) {s κ : Nat} (hs : V s) (hκ : κ ≤ 3) (e : K s = nI κ) : (κ < 3 → N s = 0) ∧ Z s = 0 ∧ D s = 0 ∧ Im s = 1 ∧ W s = 1 := by
  obtain ⟨_, ⟨k1, a1, a2, a3, a4⟩ | ⟨k1, z, dd, a1, a2, -⟩⟩ := hx s hs
  · have := rl_not45 e a2 (by omega) (by omega)
    subst this
    exact ⟨a3, a4⟩
  · have := rl_not45 e a2 (by omega) (by omega)
    omega
theorem rl_ox13 (hx : vv_ox V K N Z D Im W P) (hb : rl_b V K N) : vv_ox (fun s => s < 13) K N Z D Im W P := by
  intro s hs
  refine ⟨by omega, Or.inl ?_⟩
  rcases Nat.lt_or_ge s 3 with h | h
  · obtain ⟨a, b⟩ := hb.1 s h
    exact ⟨s, by omega, b, rl_plain hx a (by omega) b⟩
  · obtain ⟨a, b, _⟩ := hb.2 (s - 3) (by omega)
    rw [show 3 + (s - 3) = s by omega] at a b
    exact ⟨3, by omega, b, rl_plain hx a (by omega) b⟩
theorem rl_b13 (hb : rl_b V K N) : rl_b (fun s => s < 13) K N := ⟨fun s hs => ⟨by show s < 13; omega, (hb.1 s hs).2⟩, fun g hg => ⟨by show 3 + g < 13; omega, (hb.2 g hg).2⟩⟩
theorem rl_R0 (hx : vv_ox V K N Z D Im W P) (hb : rl_b V K N) {κ : Nat} (hκ : κ < 3) : vv_R V K N Z D P mk o l kS d pl (nI κ) (yy_t κ 0) := by
  obtain ⟨a, b⟩ := hb.1 κ hκ
  obtain ⟨c, e, f, _⟩ := rl_plain hx a (by omega) b
  exact vv_R_plain (by omega) a (by omega) b (c hκ) e f
theorem kn_ok_up {T : List Nat → Option vv_L} {np nf : Nat} {pO pX pI fS aS : Nat → Int32} {xen xco xac : Int32} (hx : vv_ox V K N Z D Im W P) (e : vv_eq V K N Z D Im W P K' N' Z' D' Im' W' P')
    (h : kn_ok T np nf pO pX pI fS V K N Z D P aS xen xco xac) : kn_ok T np nf pO pX pI fS V K' N' Z' D' P' aS xen xco xac := by
  intro mk pd yma ypo yhe yvm yin yfi yde yap yas yto yan yco yti yna yac yen yic o l kS d pl ys yk yn yp yf yo yi yw ya y1 y2 yK yW yL yq nm nv no yA lf rt iK iN hf post hp
  refine h mk pd yma ypo yhe yvm yin yfi yde yap yas yto yan yco yti yna yac yen yic o l kS d pl ys yk yn yp yf yo yi yw ya y1 y2 yK yW yL yq nm nv no yA lf rt iK iN hf post (fun v hv => hp v ?_)
  obtain ⟨yma', ypo', yhe', yvm', yin', yfi', yde', yap', yas', yto', yan', yco', yti', yna', yac', yen', yic', o', l', kS', d', pl', ys', yk', yn', yp', yf', yo', yi', yw', ya', y1', y2', yK', yW', yL', yq', nm', nv', no', yA', lf', rt', iK', iN'⟩ := v
  obtain ⟨h1, h2, h3, h4, h5, h6, mk', pd', h7, h8⟩ := hv
  exact ⟨h1, h2, h3, h4, h5, h6, mk', pd', h7, fun i hi => vv_R_up hx h7 (fun s hs => ⟨hs, vv_eq_x e s hs⟩) (Nat.le_refl _) (fun j _ => ⟨rfl, rfl, rfl, rfl, fun _ _ _ _ _ _ _ _ => rfl⟩) (h8 i hi)⟩
theorem rl_k_up {m m' np nf : Nat} {xin : Int32} {pO pX pI fS aS : Nat → Int32} {xkn xen xco xac : Int32} (hm : m ≤ m')
    (e : vv_eq (fun s => s < 13 + m ∨ 53 ≤ s) K N Z D Im W P K' N' Z' D' Im' W' P') (ei : ∀ p, vv_x K' N' Z' D' P' p xin.toNatClampNeg = vv_x K N Z D P p xin.toNatClampNeg)
    (h : rl_k m np nf xin K N Z D Im W P pO pX pI fS aS xkn xen xco xac) : rl_k m' np nf xin K' N' Z' D' Im' W' P' pO pX pI fS aS xkn xen xco xac := by
  rcases h with h | ⟨h1, V, a, h2, h3, h4, h5, h6, h7⟩
  · exact Or.inl h
  · have e' : vv_eq V K N Z D Im W P K' N' Z' D' Im' W' P' := fun s hs => e s (h3 s hs)
    refine Or.inr ⟨h1, V, a, vv_ox_eq h2 e', fun s hs => ?_, h4, h5, h6, ?_⟩
    · rcases h3 s hs with z | z
      · exact Or.inl (by omega)
      · exact Or.inr z
    · rw [show (fun p => vv_x K' N' Z' D' P' p xin.toNatClampNeg) = (fun p => vv_x K N Z D P p xin.toNatClampNeg) from funext ei]
      exact kn_ok_up h2 e' h7
end
theorem i_vc_forget {k : Nat} {u : SX} {v : SY} (I : i_Rel k u v) (hk : k + 3 ≤ 1536) : wpX_forget (fun u' => wpY_forget (fun v' => i_Rel (k + 3) u' v') v) u := by
  obtain ⟨xst, xow, xin, xpa, xfi, xfr, xno, xsi, xan, xkn, xen, xco, xrm, xac, K, N, Z, D, Im, W, P, vS, pO, pX, pI, fS, fP, fI, fU, fR, fO, fA, fH, fG, fN, aS, qL, qR, qP⟩ := u
  obtain ⟨yma, ypo, yhe, yvm, yin, yfi, yde, yap, yas, yto, yan, yco, yti, yna, yac, yen, yic, o, l, kS, d, pl, ys, yk, yn, yp, yf, yo, yi, yw, ya, y1, y2, yK, yW, yL, yq, nm, nv, no, yA, lf, rt, iK, iN⟩ := v
  obtain ⟨V, h, m, mk, pd, np, nf, ⟨_, _, _, _, _, _, _, _, _, _, h11, _, h13, _⟩, hf, _⟩ := I
  refine ⟨fun s => s < 13, 0, 0, 0, 0, np, nf, ⟨rfl, rfl, by omega, rfl, rfl, by omega, rfl, rfl, by omega, by omega, rl_ox13 h11 h13, fun s hs => hs, rl_b13 h13, ⟨by omega, by omega, fun j hj => absurd hj (by omega)⟩, fun i hi => absurd hi (by omega), ?_⟩, hf, Or.inl rfl⟩
  show vv_R _ _ _ _ _ _ _ _ _ _ _ _ 0 0
  rw [yy_0]
  exact rl_R0 (rl_ox13 h11 h13) (rl_b13 h13) (κ := 0) (by omega)
theorem i_vc_input {k : Nat} {u : SX} {v : SY} (I : i_Rel k u v) (hk : k + 3 ≤ 1536) : wpX_input (fun r u' => wpY_input (fun r' v' => r' = r ∧ i_Rel (k + 3) u' v') v) u := by
  obtain ⟨xst, xow, xin, xpa, xfi, xfr, xno, xsi, xan, xkn, xen, xco, xrm, xac, K, N, Z, D, Im, W, P, vS, pO, pX, pI, fS, fP, fI, fU, fR, fO, fA, fH, fG, fN, aS, qL, qR, qP⟩ := u
  obtain ⟨yma, ypo, yhe, yvm, yin, yfi, yde, yap, yas, yto, yan, yco, yti, yna, yac, yen, yic, o, l, kS, d, pl, ys, yk, yn, yp, yf, yo, yi, yw, ya, y1, y2, yK, yW, yL, yq, nm, nv, no, yA, lf, rt, iK, iN⟩ := v
  obtain ⟨V, h, m, mk, pd, np, nf, ⟨rfl, rfl, h3, h4, h5, h6, h7, h8, h9, h10, h11, h12, h13, h14, h15, h16⟩, hf, hkn⟩ := I
  unfold wpX_input
  dsimp only
  by_cases hz : h = 0
  · subst hz
    refine br_t rfl ?_
    unfold wpY_input
    dsimp only
    exact br_t rfl ⟨rfl, V, 0, m, mk, pd, np, nf, ⟨rfl, rfl, h3, h4, h5, h6, h7, h8, h9, h10, h11, h12, h13, h14, h15, h16⟩, hf, hkn⟩
  · obtain ⟨h', rfl⟩ : ∃ j, h = j + 1 := ⟨h - 1, by omega⟩
    have hne := nI_ne0 (n := h' + 1) (by omega) (by omega)
    have hin : vp_in (nI h') 12 := vp_in_nI (by omega) (by omega)
    have ec : (nI h').toNatClampNeg = h' := nI_clamp (by omega)
    rw [nI_pred]
    refine br_f hne (nm_e ⟨hin, ?_⟩)
    rw [ec]
    refine nm_e ?_
    unfold wpY_input
    dsimp only
    rw [nI_pred]
    refine br_f hne (nm_e ⟨hin, ?_⟩)
    rw [ec]
    exact nm_e ⟨rfl, V, h', m, mk, pd, np, nf, ⟨rfl, rfl, by omega, h4, h5, h6, h7, h8, h9, h10, h11, h12, h13, h14, fun i hi => h15 i (by omega), h15 h' (by omega)⟩, hf, Or.inl rfl⟩
theorem i_vc_scrap {k : Nat} {u : SX} {v : SY} (I : i_Rel k u v) (hk : k + 3 ≤ 1536) : wpX_scrap (fun r u' => wpY_scrap (fun r' v' => r' = r ∧ i_Rel (k + 3) u' v') v) u := by
  obtain ⟨xst, xow, xin, xpa, xfi, xfr, xno, xsi, xan, xkn, xen, xco, xrm, xac, K, N, Z, D, Im, W, P, vS, pO, pX, pI, fS, fP, fI, fU, fR, fO, fA, fH, fG, fN, aS, qL, qR, qP⟩ := u
  obtain ⟨yma, ypo, yhe, yvm, yin, yfi, yde, yap, yas, yto, yan, yco, yti, yna, yac, yen, yic, o, l, kS, d, pl, ys, yk, yn, yp, yf, yo, yi, yw, ya, y1, y2, yK, yW, yL, yq, nm, nv, no, yA, lf, rt, iK, iN⟩ := v
  obtain ⟨V, h, m, mk, pd, np, nf, hh, ⟨f1, f2, f3, f4, f5, f6, f7, f8, f9, f10, f11⟩, hkn⟩ := I
  unfold wpX_scrap
  dsimp only
  unfold wpY_scrap
  dsimp only
  exact ⟨f5.trans f4.symm, V, h, m, mk, pd, 0, 0, hh, ⟨rfl, rfl, by omega, rfl, rfl, by omega, f7, f8, f9, fun q hq => absurd hq (by omega), fun i hi => absurd hi (by omega)⟩, Or.inl rfl⟩
