section
variable {V V' : Nat → Prop} {K N Z D Im W P K' N' Z' D' Im' W' P' : Nat → Int32} {o l kS d o' l' kS' d' : Nat → Int32} {pl pl' : Nat → Int64} {mk pd pd' : Nat}
theorem cy_add (h : vv_cy mk pd o l pl) (hm : mk < 760) {a b : Nat} (hpd : pd ≤ pd') (hab : a + b ≤ pd') (hp8 : pd' ≤ 8200) (hb : b ≤ 10) (e : ∀ i, i < pd → pl' i = pl i) (hc : ∀ i, i < b → vv_vy mk (pl' (a + i))) : vv_cy (mk + 1) pd' (upd o mk (nI a)) (upd l mk (nI b)) pl' := by
  obtain ⟨h1, h2, h3⟩ := h
  refine ⟨by omega, hp8, fun j hj => ?_⟩
  by_cases ej : j = mk
  · subst ej
    exact ⟨a, b, pk_us, pk_us, hb, hab, fun i hi => vv_vy_up (Nat.le_succ _) (hc i hi)⟩
  · obtain ⟨a', b', c1, c2, c3, c4, c5⟩ := h3 j (by omega)
    exact ⟨a', b', (pk_un ej).trans c1, (pk_un ej).trans c2, c3, by omega, fun i hi => by rw [e _ (by omega)]; exact vv_vy_up (Nat.le_succ _) (c5 i hi)⟩
theorem cy_keep (hm : mk < 760) {x y z t : Int32} (e : ∀ i, i < pd → pl' i = pl i) : ∀ j, j < mk → upd o mk x j = o j ∧ upd l mk y j = l j ∧ upd kS mk z j = kS j ∧ upd d mk t j = d j ∧ ∀ a b, o j = nI a → l j = nI b → b ≤ 10 → a + b ≤ pd → ∀ i, i < b → pl' (a + i) = pl (a + i) :=
  fun j hj => ⟨pk_un (by omega), pk_un (by omega), pk_un (by omega), pk_un (by omega), fun a b _ _ _ hab i hi => e _ (by omega)⟩
theorem yd_of_R (hx : vv_ox V K N Z D Im W P) (hy : vv_cy mk pd o l pl) {s : Int32} {w : Int64} {c e : Nat} (h : vv_R V K N Z D P mk o l kS d pl s w) (hs : s = nI c) (hc : c < 653) (hD : D c = nI e) (h4 : e ≤ 4) : yd_is d w e := by
  obtain ⟨n, κ, x, a1, a2, a3, a4, a5, a6, a7⟩ := vv_R_is hx hy h
  have : n = c := (nI_eq (by omega) (by omega)).mp (a1.symm.trans hs)
  subst this
  refine ⟨h4, κ, x, a4, a5, ?_⟩
  rcases a7 with ⟨b1, _, _, b4⟩ | ⟨b1, j, a, b, b2, b3, _, _, _, _, _, _, b9, _⟩
  · refine Or.inl ⟨b1, ?_⟩
    rw [hD] at b4
    exact (nI_eq (b := 0) (by omega) (by omega)).mp b4
  · exact Or.inr ⟨b1, j, by have := hy.1; omega, b3, b9.symm.trans hD⟩
theorem rl_h_eq {h m : Nat} {xst xow xin : Int32} {vS : Nat → Int32} {yma ypo yhe yvm : Int32} {yin : Int64} {ys : Nat → Int64} (H : rl_h V h m mk pd xst xow xin K N Z D Im W P vS yma ypo yhe yvm yin o l kS d pl ys) (e : vv_eq V K N Z D Im W P K' N' Z' D' Im' W' P') : rl_h V h m mk pd xst xow xin K' N' Z' D' Im' W' P' vS yma ypo yhe yvm yin o l kS d pl ys := by
  obtain ⟨h1, h2, h3, h4, h5, h6, h7, h8, h9, h10, h11, h12, h13, h14, h15, h16⟩ := H
  exact ⟨h1, h2, h3, h4, h5, h6, h7, h8, h9, h10, vv_ox_eq h11 e, h12, rl_b_up h13 (fun _ z => z) (fun s hs => ⟨(e s hs).1, (e s hs).2.1⟩), h14, fun i hi => vv_R_ux h11 h14 e (fun _ z => z) (h15 i hi), vv_R_ux h11 h14 e (fun _ z => z) h16⟩
theorem rl_xin (hx : vv_ox V K N Z D Im W P) (e : vv_eq V K N Z D Im W P K' N' Z' D' Im' W' P') {xin : Int32} {yin : Int64} (h : vv_R V K N Z D P mk o l kS d pl xin yin) : ∀ p, vv_x K' N' Z' D' P' p xin.toNatClampNeg = vv_x K N Z D P p xin.toNatClampNeg := by
  intro p
  obtain ⟨n, e1, e2, e3, _⟩ := h
  rw [e1, nI_clamp (by omega)]
  exact vv_x_st hx (fun s hs => vv_eq_x e s hs) p n e3
end
theorem ns_both {k : Nat} {xst xow xin xpa xfi xfr xno xsi xan xkn xen xco xrm xac : Int32} {K N Z D Im W P vS pO pX pI fS fP fI fU fR fO fA fH fG fN aS qL qR qP : Nat → Int32} {yma ypo yhe yvm : Int32} {yin : Int64} {yfi yde yap yas yto : Int32} {yan : Int64} {yco yti yna yac yen yic : Int32} {o l kS d : Nat → Int32} {pl ys : Nat → Int64} {yk yn yp yf yo : Nat → Int32} {yi : Nat → Int64} {yw ya y1 y2 : Nat → Int32} {yK : Nat → Int64} {yW : Nat → Int32} {yL : Nat → Int64} {yq nm : Nat → Int32} {nv : Nat → Int64} {no : Nat → Int32} {yA lf rt : Nat → Int64} {iK iN : Nat → Int32} {κ z kk : Nat} {key : Int32} (I : i_Rel k (xst, xow, xin, xpa, xfi, xfr, xno, xsi, xan, xkn, xen, xco, xrm, xac, K, N, Z, D, Im, W, P, vS, pO, pX, pI, fS, fP, fI, fU, fR, fO, fA, fH, fG, fN, aS, qL, qR, qP) (yma, ypo, yhe, yvm, yin, yfi, yde, yap, yas, yto, yan, yco, yti, yna, yac, yen, yic, o, l, kS, d, pl, ys, yk, yn, yp, yf, yo, yi, yw, ya, y1, y2, yK, yW, yL, yq, nm, nv, no, yA, lf, rt, iK, iN)) (hz : z ≤ 10) (h45 : (κ = 4 ∧ kk = 0 ∧ key = 0) ∨ (κ = 5 ∧ kk = 1 ∧ ∃ mm, mm < 256 ∧ key = nI mm ∧ z = vv_pc mm 8))
    (PX : Int32 → SX → Prop) (H : ∀ r u', (∀ PY : Int32 → SY → Prop, (∀ v', i_Rel (k + 3) u' v' → PY r v') → wpY_takeOff PY (yma, ypo, yhe, yvm, yin, yfi, yde, yap, yas, yto, yan, yco, yti, yna, yac, yen, yic, o, l, kS, d, pl, ys, yk, yn, yp, yf, yo, yi, yw, ya, y1, y2, yK, yW, yL, yq, nm, nv, no, yA, lf, rt, iK, iN) (nI κ) (nI z) key) → PX r u') : wpX_stackNested PX (xst, xow, xin, xpa, xfi, xfr, xno, xsi, xan, xkn, xen, xco, xrm, xac, K, N, Z, D, Im, W, P, vS, pO, pX, pI, fS, fP, fI, fU, fR, fO, fA, fH, fG, fN, aS, qL, qR, qP) (nI κ) key (nI z) := by
  have I0 := I
  obtain ⟨V, h, m, mk, pd, np, nf, hh, hf, hkn⟩ := I
  have hh0 := hh
  obtain ⟨e1, e2, h3, e4, e5, h6, h7, h8, h9, h10, h11, h12, h13, h14, h15, h16⟩ := hh
  by_cases b : m = 40
  · have hX : PX (-1000000002) (xst, xow, xin, xpa, xfi, xfr, xno, xsi, xan, xkn, xen, xco, xrm, xac, K, N, Z, D, Im, W, P, vS, pO, pX, pI, fS, fP, fI, fU, fR, fO, fA, fH, fG, fN, aS, qL, qR, qP) := H _ _ (fun PY hy => by
      unfold wpY_takeOff
      dsimp only
      have e40 : yvm = 40 := by rw [e5, b]; rfl
      exact br_t e40 (hy _ (i_up I0)))
    unfold wpX_stackNested
    dsimp only
    have x40 : ¬ xow < 40 := by rw [e4, b]; decide
    exact br_f x40 hX
  by_cases b2 : h < z
  · have hX : PX (-1000000003) (xst, xow, xin, xpa, xfi, xfr, xno, xsi, xan, xkn, xen, xco, xrm, xac, K, N, Z, D, Im, W, P, vS, pO, pX, pI, fS, fP, fI, fU, fR, fO, fA, fH, fG, fN, aS, qL, qR, qP) := H _ _ (fun PY hy => by
      unfold wpY_takeOff
      dsimp only
      rw [e5, e2]
      exact br_f (fun z => absurd ((nI_eq (b := 40) (by omega) (by omega)).mp z) (by omega)) (br_f (nI_ge b2 (by omega)) (hy _ (e5 ▸ e2 ▸ I0))))
    unfold wpX_stackNested
    dsimp only
    rw [e4, e1]
    exact br_t (nI_lt (b := 40) (by omega) (by omega)) (br_f (nI_ge b2 (by omega)) (e4 ▸ e1 ▸ hX))
  by_cases b3 : h - z = 12
  · have hX : PX (-1000000002) (xst, xow, xin, xpa, xfi, xfr, xno, xsi, xan, xkn, xen, xco, xrm, xac, K, N, Z, D, Im, W, P, vS, pO, pX, pI, fS, fP, fI, fU, fR, fO, fA, fH, fG, fN, aS, qL, qR, qP) := H _ _ (fun PY hy => by
      unfold wpY_takeOff
      dsimp only
      rw [e5, e2, pk_sub (by omega)]
      exact br_f (fun z => absurd ((nI_eq (b := 40) (by omega) (by omega)).mp z) (by omega)) (br_t (nI_le (by omega) (by omega)) (br_t (by rw [b3]; rfl) (hy _ (e5 ▸ e2 ▸ I0)))))
    unfold wpX_stackNested
    dsimp only
    rw [e4, e1, pk_sub (by omega)]
    exact br_t (nI_lt (b := 40) (by omega) (by omega)) (br_t (nI_le (by omega) (by omega)) (nm_e (br_f (by rw [b3]; decide) (e4 ▸ e1 ▸ hX))))
  have hne : ∀ t, V t → t ≠ 13 + m := fun t ht => by have := h12 t ht; omega
  obtain ⟨c, e, q, w, hc⟩ := ns_ex h11 (s := 13 + m) (z := z) (ch := fun i => vS (h - z + i)) (fun i hi => by
    obtain ⟨n, a1, a2, a3, _⟩ := h15 (h - z + i) (by omega)
    exact ⟨n, a1, a3, fun _ => by have := h12 n a3; omega⟩)
  have hcy : ∀ i, i < z → yd_is d (ys (h - z + i)) (e i) := fun i hi => by
    obtain ⟨c1, c2, c3, c4, c5, c6, _⟩ := hc i hi
    exact yd_of_R h11 h14 (h15 (h - z + i) (by omega)) c1 c2 c5 c6
  refine xm_stackNested (kk := kk) e1 e4 (by omega) (by omega) h3 (by omega) hz (by rcases h45 with x | x; exact Or.inl ⟨x.1, x.2.1⟩; exact Or.inr ⟨x.1, x.2.1⟩) hc hne (fun K' N' Z' D' Im' W' P' hns => ⟨fun hmx => H _ _ (fun PY hy => ?_), fun hmx => H _ _ (fun PY hy => ?_)⟩)
  · refine ym_takeOff (mk := mk) (pd := pd) (e := e) e2 e5 (by omega) (by omega) h3 (by omega) hz (by omega) h7 h8 (by omega) (by omega) hcy ⟨fun _ pl' hlo hhi => hy _ ?_, fun h4 => absurd h4 (by omega)⟩
    have heq := ns_eq hns hne
    have hox := ns_ox h11 hns hne (by omega) hc hz hmx h45
    have hk := cy_keep (o := o) (l := l) (kS := kS) (d := d) (mk := mk) (x := nI pd) (y := nI z) (z := key) (t := nI (vv_mx e z + 1)) (by omega) hlo
    have hcy' : vv_cy (mk + 1) (pd + z) (upd o mk (nI pd)) (upd l mk (nI z)) pl' := cy_add h14 (by omega) (by omega) (Nat.le_refl _) (by omega) hz hlo (fun i hi => by
      rw [hhi i hi]
      obtain ⟨_, _, _, _, a5, _⟩ := h15 (h - z + i) (by omega)
      exact a5)
    have hup : ∀ {s : Int32} {w : Int64}, vv_R V K N Z D P mk o l kS d pl s w → vv_R (fun t => V t ∨ t = 13 + m) K' N' Z' D' P' (mk + 1) (upd o mk (nI pd)) (upd l mk (nI z)) (upd kS mk key) (upd d mk (nI (vv_mx e z + 1))) pl' s w := fun hR => vv_R_up h11 h14 (fun s hs => ⟨Or.inl hs, vv_eq_x heq s hs⟩) (Nat.le_succ _) hk hR
    refine ⟨fun t => V t ∨ t = 13 + m, h - z + 1, m + 1, mk + 1, pd + z, np, nf, ⟨rfl, rfl, by omega, rfl, rfl, by omega, rfl, rfl, by omega, by omega, hox, fun s hs => ?_, rl_b_up h13 (fun _ z => Or.inl z) (fun s hs => ⟨(heq s hs).1, (heq s hs).2.1⟩), hcy', fun i hi => ?_, hup h16⟩, hf, rl_k_up (Nat.le_succ m) (ns_eq hns (fun s hs => by rcases hs with z | z <;> omega)) (rl_xin h11 heq h16) hkn⟩
    · rcases hs with z | z
      · have := h12 s z; omega
      · omega
    · by_cases ei : i = h - z
      · subst ei
        rw [pk_us, pk_uLs]
        obtain ⟨_, n1, n2, n3, n4, n5, n6, n7⟩ := hns
        refine vv_R_nest (j := mk) (a := pd) (b := z) (by omega) (Or.inr rfl) (by omega) n1 (by omega) (by omega) hz (by omega) pk_us pk_us (n2.trans pk_us.symm) n3 (n4.trans pk_us.symm) (fun i hi => ?_)
        rw [n7 i hi, hhi i hi]
        exact hup (h15 (h - z + i) (by omega))
      · rw [pk_un ei, pk_uLn ei]
        exact hup (h15 i (by omega))
  · refine ym_takeOff (mk := mk) (pd := pd) (e := e) e2 e5 (by omega) (by omega) h3 (by omega) hz (by omega) h7 h8 (by omega) (by omega) hcy ⟨fun h3 => absurd h3 (by omega), fun _ => hy _ ?_⟩
    have heq := ns_eq hns hne
    exact ⟨V, h, m, mk, pd, np, nf, rl_h_eq hh0 heq, hf, rl_k_up (Nat.le_refl m) (ns_eq hns (fun s hs => by rcases hs with z | z <;> omega)) (rl_xin h11 heq h16) hkn⟩
theorem i_vc_array {k : Nat} {u : SX} {v : SY} (I : i_Rel k u v) (hk : k + 3 ≤ 1536) (v1 : Int32) : wpX_array (fun r u' => wpY_array (fun r' v' => r' = r ∧ i_Rel (k + 3) u' v') v v1) u v1 := by
  obtain ⟨xst, xow, xin, xpa, xfi, xfr, xno, xsi, xan, xkn, xen, xco, xrm, xac, K, N, Z, D, Im, W, P, vS, pO, pX, pI, fS, fP, fI, fU, fR, fO, fA, fH, fG, fN, aS, qL, qR, qP⟩ := u
  obtain ⟨yma, ypo, yhe, yvm, yin, yfi, yde, yap, yas, yto, yan, yco, yti, yna, yac, yen, yic, o, l, kS, d, pl, ys, yk, yn, yp, yf, yo, yi, yw, ya, y1, y2, yK, yW, yL, yq, nm, nv, no, yA, lf, rt, iK, iN⟩ := v
  by_cases a0 : v1 < 0
  · unfold wpX_array wpY_array
    dsimp only
    exact br_t a0 (br_t a0 ⟨rfl, I⟩)
  by_cases a1 : v1 ≤ 10
  case neg =>
    unfold wpX_array wpY_array
    dsimp only
    exact br_f a0 (br_f a1 (br_f a0 (br_f a1 ⟨rfl, I⟩)))
  obtain ⟨z, hz, rfl⟩ := nI_of2 (n := 10) (by decide) a0 a1
  unfold wpX_array
  dsimp only
  refine br_f a0 (br_t a1 (ns_both (κ := 4) (kk := 0) I hz (Or.inl ⟨rfl, rfl, rfl⟩) _ (fun r u' hY => ?_)))
  obtain ⟨xst', xow', xin', xpa', xfi', xfr', xno', xsi', xan', xkn', xen', xco', xrm', xac', K', N', Z', D', Im', W', P', vS', pO', pX', pI', fS', fP', fI', fU', fR', fO', fA', fH', fG', fN', aS', qL', qR', qP'⟩ := u'
  unfold wpY_array
  dsimp only
  refine br_f a0 (br_t a1 (hY _ (fun v' hI => ?_)))
  obtain ⟨yma', ypo', yhe', yvm', yin', yfi', yde', yap', yas', yto', yan', yco', yti', yna', yac', yen', yic', o', l', kS', d', pl', ys', yk', yn', yp', yf', yo', yi', yw', ya', y1', y2', yK', yW', yL', yq', nm', nv', no', yA', lf', rt', iK', iN'⟩ := v'
  exact ⟨rfl, hI⟩
theorem vv_pc_8 {m : Nat} : vv_pc m 8 ≤ 10 := by
  have := vv_sm_le (f := fun i => m / 2 ^ i % 2) (b := 1) 8 (fun i _ => by show m / 2 ^ i % 2 ≤ 1; omega)
  unfold vv_pc
  omega
theorem i_vc_object {k : Nat} {u : SX} {v : SY} (I : i_Rel k u v) (hk : k + 3 ≤ 1536) (v1 : Int32) : wpX_object (fun r u' => wpY_object (fun r' v' => r' = r ∧ i_Rel (k + 3) u' v') v v1) u v1 := by
  obtain ⟨xst, xow, xin, xpa, xfi, xfr, xno, xsi, xan, xkn, xen, xco, xrm, xac, K, N, Z, D, Im, W, P, vS, pO, pX, pI, fS, fP, fI, fU, fR, fO, fA, fH, fG, fN, aS, qL, qR, qP⟩ := u
  obtain ⟨yma, ypo, yhe, yvm, yin, yfi, yde, yap, yas, yto, yan, yco, yti, yna, yac, yen, yic, o, l, kS, d, pl, ys, yk, yn, yp, yf, yo, yi, yw, ya, y1, y2, yK, yW, yL, yq, nm, nv, no, yA, lf, rt, iK, iN⟩ := v
  by_cases a0 : v1 < 0
  · unfold wpX_object wpY_object
    dsimp only
    exact br_t a0 (br_t a0 ⟨rfl, I⟩)
  by_cases a1 : v1 ≤ 255
  case neg =>
    unfold wpX_object wpY_object
    dsimp only
    exact br_f a0 (br_f a1 (br_f a0 (br_f a1 ⟨rfl, I⟩)))
  obtain ⟨mm, hmm, rfl⟩ := nI_of2 (n := 255) (by decide) a0 a1
  unfold wpX_object
  dsimp only
  refine br_f a0 (br_t a1 (xm_keysBelow (b := 8) (by omega) (by omega) (ns_both (κ := 5) (kk := 1) I vv_pc_8 (Or.inr ⟨rfl, rfl, mm, by omega, rfl, rfl⟩) _ (fun r u' hY => ?_))))
  obtain ⟨xst', xow', xin', xpa', xfi', xfr', xno', xsi', xan', xkn', xen', xco', xrm', xac', K', N', Z', D', Im', W', P', vS', pO', pX', pI', fS', fP', fI', fU', fR', fO', fA', fH', fG', fN', aS', qL', qR', qP'⟩ := u'
  unfold wpY_object
  dsimp only
  refine br_f a0 (br_t a1 (ym_bits (by omega) ?_))
  rw [vv_pc_10 mm (by omega)]
  refine hY _ (fun v' hI => ?_)
  obtain ⟨yma', ypo', yhe', yvm', yin', yfi', yde', yap', yas', yto', yan', yco', yti', yna', yac', yen', yic', o', l', kS', d', pl', ys', yk', yn', yp', yf', yo', yi', yw', ya', y1', y2', yK', yW', yL', yq', nm', nv', no', yA', lf', rt', iK', iN'⟩ := v'
  exact ⟨rfl, hI⟩
