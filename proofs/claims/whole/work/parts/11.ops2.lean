theorem i_vc_two {k : Nat} {u : SX} {v : SY} (I : i_Rel k u v) (hk : k + 3 ≤ 1536) (v1 : Int32) (v2 : Int32) : wpX_two (fun r u' => wpY_two (fun r' v' => r' = r ∧ i_Rel (k + 3) u' v') v v1 v2) u v1 v2 := by
  obtain ⟨xst, xow, xin, xpa, xfi, xfr, xno, xsi, xan, xkn, xen, xco, xrm, xac, K, N, Z, D, Im, W, P, vS, pO, pX, pI, fS, fP, fI, fU, fR, fO, fA, fH, fG, fN, aS, qL, qR, qP⟩ := u
  obtain ⟨yma, ypo, yhe, yvm, yin, yfi, yde, yap, yas, yto, yan, yco, yti, yna, yac, yen, yic, o, l, kS, d, pl, ys, yk, yn, yp, yf, yo, yi, yw, ya, y1, y2, yK, yW, yL, yq, nm, nv, no, yA, lf, rt, iK, iN⟩ := v
  have bad : ∀ r : Int32, (v1 < 0 ∨ 12 < v1 ∨ (v1 = 12 ∧ (v2 < 0 ∨ 2 < v2))) → r = -1000000001 → wpY_two (fun r' v' => r' = r ∧ i_Rel (k + 3) (xst, xow, xin, xpa, xfi, xfr, xno, xsi, xan, xkn, xen, xco, xrm, xac, K, N, Z, D, Im, W, P, vS, pO, pX, pI, fS, fP, fI, fU, fR, fO, fA, fH, fG, fN, aS, qL, qR, qP) v') (yma, ypo, yhe, yvm, yin, yfi, yde, yap, yas, yto, yan, yco, yti, yna, yac, yen, yic, o, l, kS, d, pl, ys, yk, yn, yp, yf, yo, yi, yw, ya, y1, y2, yK, yW, yL, yq, nm, nv, no, yA, lf, rt, iK, iN) v1 v2 := by
    intro r hb hr
    subst hr
    have hz : wY_two_31 (fun r' v' => r' = -1000000001 ∧ i_Rel (k + 3) (xst, xow, xin, xpa, xfi, xfr, xno, xsi, xan, xkn, xen, xco, xrm, xac, K, N, Z, D, Im, W, P, vS, pO, pX, pI, fS, fP, fI, fU, fR, fO, fA, fH, fG, fN, aS, qL, qR, qP) v') v1 v2 yma ypo yhe yvm yin yfi yde yap yas yto yan yco yti yna yac yen yic o l kS d pl ys yk yn yp yf yo yi yw ya y1 y2 yK yW yL yq nm nv no yA lf rt iK iN := by
      unfold wY_two_31 wY_two_32
      exact br_t rfl ⟨rfl, I⟩
    unfold wpY_two
    dsimp only
    refine ym_isIn (fun _ => br_t rfl hz) (fun n0 n1 => br_f (by decide) (br_c (fun e1 => ym_isIn (fun _ => br_t rfl hz) (fun m0 m2 => ?_)) (fun ne => ?_)))
    · exact absurd hb (fun w => w.elim n0 (fun w => w.elim n1 (fun w => w.2.elim m0 m2)))
    · exact absurd hb (fun w => w.elim n0 (fun w => w.elim n1 (fun w => ne w.1)))
  unfold wpX_two
  dsimp only
  refine br_c (fun z => bad _ (Or.inl z) rfl) (fun n0 => br_c (fun n1 => ?_) (fun z => bad _ (Or.inr (Or.inl (Int32.not_le.mp z))) rfl))
  obtain ⟨j, hj, rfl⟩ := nI_of2 (n := 12) (by decide) n0 n1
  have go : (j = 12 → ∃ m, m < 3 ∧ v2 = nI m) → wX_two_36 (fun r u' => wpY_two (fun r' v' => r' = r ∧ i_Rel (k + 3) u' v') (yma, ypo, yhe, yvm, yin, yfi, yde, yap, yas, yto, yan, yco, yti, yna, yac, yen, yic, o, l, kS, d, pl, ys, yk, yn, yp, yf, yo, yi, yw, ya, y1, y2, yK, yW, yL, yq, nm, nv, no, yA, lf, rt, iK, iN) (nI j) v2) v2 (nI (21 + j)) xst xow xin xpa xfi xfr xno xsi xan xkn xen xco xrm xac K N Z D Im W P vS pO pX pI fS fP fI fU fR fO fA fH fG fN aS qL qR qP := by
    intro hm
    obtain ⟨r, u', v', hI, hX, hY⟩ := pu_ans (x := v2) I (show 21 + j ≤ 35 by omega) (fl_k2 (by omega)).2 (fun z => absurd z (by decide)) ⟨fun z => absurd z (by omega), fun z => absurd z (by omega), fun z => absurd z (by omega), fun z => absurd z (by omega), fun z => absurd z (by omega), fun z => hm (by omega), fun z => absurd z (by omega)⟩
    rw [(fl_k2 (by omega)).1] at hY
    obtain ⟨xst', xow', xin', xpa', xfi', xfr', xno', xsi', xan', xkn', xen', xco', xrm', xac', K', N', Z', D', Im', W', P', vS', pO', pX', pI', fS', fP', fI', fU', fR', fO', fA', fH', fG', fN', aS', qL', qR', qP'⟩ := u'
    obtain ⟨yma', ypo', yhe', yvm', yin', yfi', yde', yap', yas', yto', yan', yco', yti', yna', yac', yen', yic', o', l', kS', d', pl', ys', yk', yn', yp', yf', yo', yi', yw', ya', y1', y2', yK', yW', yL', yq', nm', nv', no', yA', lf', rt', iK', iN'⟩ := v'
    unfold wX_two_36
    refine hX _ ?_
    dsimp only
    have hz : wY_two_27 (fun r' v' => r' = r ∧ i_Rel (k + 3) (xst', xow', xin', xpa', xfi', xfr', xno', xsi', xan', xkn', xen', xco', xrm', xac', K', N', Z', D', Im', W', P', vS', pO', pX', pI', fS', fP', fI', fU', fR', fO', fA', fH', fG', fN', aS', qL', qR', qP') v') (nI j) v2 yma ypo yhe yvm yin yfi yde yap yas yto yan yco yti yna yac yen yic o l kS d pl ys yk yn yp yf yo yi yw ya y1 y2 yK yW yL yq nm nv no yA lf rt iK iN := by
      unfold wY_two_27 wY_two_32
      refine br_f (by decide) ?_
      rw [show (30 : Int32) + nI j = nI (30 + j) from nI_add 30 j]
      exact hY _ ⟨rfl, hI⟩
    unfold wpY_two
    dsimp only
    refine ym_isIn (fun w => absurd w ?_) (fun _ _ => br_f (by decide) (br_c (fun e1 => ym_isIn (fun w => absurd w ?_) (fun _ _ => br_f (by decide) hz)) (fun _ => hz)))
    · exact fun w => w.elim n0 (fun w => Int32.not_lt.mpr n1 w)
    · obtain ⟨m, m1, rfl⟩ := hm ((nI_eq (b := 12) (by omega) (by omega)).mp e1)
      exact fun w => w.elim (nI_pos (by omega)) (nI_nlt (a := 2) (by omega) (by omega))
  rw [show (21 : Int32) + nI j = nI (21 + j) from nI_add 21 j]
  refine nm_e (br_c (fun e => ?_) (fun ne => go (fun e => absurd (by rw [e]; rfl) ne)))
  have e1 : j = 12 := by
    have := (nI_eq (b := 33) (by omega) (by omega)).mp e
    omega
  subst e1
  refine br_c (fun z => bad _ (Or.inr (Or.inr ⟨rfl, Or.inl z⟩)) rfl) (fun m0 => br_c (fun m3 => go (fun _ => pu_rng rfl (by decide) m0 m3)) (fun z => bad _ (Or.inr (Or.inr ⟨rfl, Or.inr ?_⟩)) rfl))
  exact Classical.not_not.mp (fun w => z ((pu_lt (by decide)).mpr w))
theorem i_vc_one {k : Nat} {u : SX} {v : SY} (I : i_Rel k u v) (hk : k + 3 ≤ 1536) (v1 : Int32) (v2 : Int32) : wpX_one (fun r u' => wpY_one (fun r' v' => r' = r ∧ i_Rel (k + 3) u' v') v v1 v2) u v1 v2 := by
  obtain ⟨xst, xow, xin, xpa, xfi, xfr, xno, xsi, xan, xkn, xen, xco, xrm, xac, K, N, Z, D, Im, W, P, vS, pO, pX, pI, fS, fP, fI, fU, fR, fO, fA, fH, fG, fN, aS, qL, qR, qP⟩ := u
  obtain ⟨yma, ypo, yhe, yvm, yin, yfi, yde, yap, yas, yto, yan, yco, yti, yna, yac, yen, yic, o, l, kS, d, pl, ys, yk, yn, yp, yf, yo, yi, yw, ya, y1, y2, yK, yW, yL, yq, nm, nv, no, yA, lf, rt, iK, iN⟩ := v
  have bad : ∀ r : Int32, (v1 < 0 ∨ 4 < v1 ∨ (v1 = 2 ∧ (v2 < 0 ∨ 9 < v2)) ∨ (v1 = 4 ∧ (v2 < 0 ∨ 7 < v2))) → r = -1000000001 → wpY_one (fun r' v' => r' = r ∧ i_Rel (k + 3) (xst, xow, xin, xpa, xfi, xfr, xno, xsi, xan, xkn, xen, xco, xrm, xac, K, N, Z, D, Im, W, P, vS, pO, pX, pI, fS, fP, fI, fU, fR, fO, fA, fH, fG, fN, aS, qL, qR, qP) v') (yma, ypo, yhe, yvm, yin, yfi, yde, yap, yas, yto, yan, yco, yti, yna, yac, yen, yic, o, l, kS, d, pl, ys, yk, yn, yp, yf, yo, yi, yw, ya, y1, y2, yK, yW, yL, yq, nm, nv, no, yA, lf, rt, iK, iN) v1 v2 := by
    intro r hb hr
    subst hr
    have hz : wY_one_46 (fun r' v' => r' = -1000000001 ∧ i_Rel (k + 3) (xst, xow, xin, xpa, xfi, xfr, xno, xsi, xan, xkn, xen, xco, xrm, xac, K, N, Z, D, Im, W, P, vS, pO, pX, pI, fS, fP, fI, fU, fR, fO, fA, fH, fG, fN, aS, qL, qR, qP) v') v1 v2 yma ypo yhe yvm yin yfi yde yap yas yto yan yco yti yna yac yen yic o l kS d pl ys yk yn yp yf yo yi yw ya y1 y2 yK yW yL yq nm nv no yA lf rt iK iN := by
      unfold wY_one_46 wY_one_47
      exact br_t rfl ⟨rfl, I⟩
    have h26 : (¬ v1 < 0) → (¬ 4 < v1) → (¬ (v1 = 2 ∧ (v2 < 0 ∨ 9 < v2))) → wY_one_26 (fun r' v' => r' = -1000000001 ∧ i_Rel (k + 3) (xst, xow, xin, xpa, xfi, xfr, xno, xsi, xan, xkn, xen, xco, xrm, xac, K, N, Z, D, Im, W, P, vS, pO, pX, pI, fS, fP, fI, fU, fR, fO, fA, fH, fG, fN, aS, qL, qR, qP) v') v1 v2 yma ypo yhe yvm yin yfi yde yap yas yto yan yco yti yna yac yen yic o l kS d pl ys yk yn yp yf yo yi yw ya y1 y2 yK yW yL yq nm nv no yA lf rt iK iN := by
      intro n0 n4 n2
      unfold wY_one_26
      refine br_c (fun e4 => ym_isIn (fun _ => br_t rfl hz) (fun m0 m7 => ?_)) (fun ne => ?_)
      · exact absurd hb (fun w => w.elim n0 (fun w => w.elim n4 (fun w => w.elim n2 (fun w => w.2.elim m0 m7))))
      · exact absurd hb (fun w => w.elim n0 (fun w => w.elim n4 (fun w => w.elim n2 (fun w => ne w.1))))
    unfold wpY_one
    dsimp only
    exact ym_isIn (fun _ => br_t rfl hz) (fun n0 n4 => br_f (by decide) (br_c (fun e2 => ym_isIn (fun _ => br_t rfl hz) (fun m0 m9 => br_f (by decide) (h26 n0 n4 (fun w => w.2.elim m0 m9)))) (fun ne => h26 n0 n4 (fun w => ne w.1))))
  unfold wpX_one
  dsimp only
  refine br_c (fun z => bad _ (Or.inl z) rfl) (fun n0 => br_c (fun n1 => ?_) (fun z => bad _ (Or.inr (Or.inl (Int32.not_le.mp z))) rfl))
  obtain ⟨j, hj, rfl⟩ := nI_of2 (n := 4) (by decide) n0 n1
  have go : (j = 2 → ∃ m, m < 10 ∧ v2 = nI m) → (j = 4 → ∃ m, m < 8 ∧ v2 = nI m) → wX_one_55 (fun r u' => wpY_one (fun r' v' => r' = r ∧ i_Rel (k + 3) u' v') (yma, ypo, yhe, yvm, yin, yfi, yde, yap, yas, yto, yan, yco, yti, yna, yac, yen, yic, o, l, kS, d, pl, ys, yk, yn, yp, yf, yo, yi, yw, ya, y1, y2, yK, yW, yL, yq, nm, nv, no, yA, lf, rt, iK, iN) (nI j) v2) v2 (nI (16 + j)) xst xow xin xpa xfi xfr xno xsi xan xkn xen xco xrm xac K N Z D Im W P vS pO pX pI fS fP fI fU fR fO fA fH fG fN aS qL qR qP := by
    intro hm hm4
    obtain ⟨r, u', v', hI, hX, hY⟩ := pu_ans (x := v2) I (show 16 + j ≤ 35 by omega) (fl_k1 (by omega)).2 (fun z => absurd z (by decide)) ⟨fun z => absurd z (by omega), fun z => absurd z (by omega), fun z => absurd z (by omega), fun z => hm (by omega), fun z => hm4 (by omega), fun z => absurd z (by omega), fun z => absurd z (by omega)⟩
    rw [(fl_k1 (by omega)).1] at hY
    obtain ⟨xst', xow', xin', xpa', xfi', xfr', xno', xsi', xan', xkn', xen', xco', xrm', xac', K', N', Z', D', Im', W', P', vS', pO', pX', pI', fS', fP', fI', fU', fR', fO', fA', fH', fG', fN', aS', qL', qR', qP'⟩ := u'
    obtain ⟨yma', ypo', yhe', yvm', yin', yfi', yde', yap', yas', yto', yan', yco', yti', yna', yac', yen', yic', o', l', kS', d', pl', ys', yk', yn', yp', yf', yo', yi', yw', ya', y1', y2', yK', yW', yL', yq', nm', nv', no', yA', lf', rt', iK', iN'⟩ := v'
    unfold wX_one_55
    refine hX _ ?_
    dsimp only
    have hz : wY_one_42 (fun r' v' => r' = r ∧ i_Rel (k + 3) (xst', xow', xin', xpa', xfi', xfr', xno', xsi', xan', xkn', xen', xco', xrm', xac', K', N', Z', D', Im', W', P', vS', pO', pX', pI', fS', fP', fI', fU', fR', fO', fA', fH', fG', fN', aS', qL', qR', qP') v') (nI j) v2 yma ypo yhe yvm yin yfi yde yap yas yto yan yco yti yna yac yen yic o l kS d pl ys yk yn yp yf yo yi yw ya y1 y2 yK yW yL yq nm nv no yA lf rt iK iN := by
      unfold wY_one_42 wY_one_47
      refine br_f (by decide) ?_
      rw [show (20 : Int32) + nI j = nI (20 + j) from nI_add 20 j]
      exact hY _ ⟨rfl, hI⟩
    have h26 : wY_one_26 (fun r' v' => r' = r ∧ i_Rel (k + 3) (xst', xow', xin', xpa', xfi', xfr', xno', xsi', xan', xkn', xen', xco', xrm', xac', K', N', Z', D', Im', W', P', vS', pO', pX', pI', fS', fP', fI', fU', fR', fO', fA', fH', fG', fN', aS', qL', qR', qP') v') (nI j) v2 yma ypo yhe yvm yin yfi yde yap yas yto yan yco yti yna yac yen yic o l kS d pl ys yk yn yp yf yo yi yw ya y1 y2 yK yW yL yq nm nv no yA lf rt iK iN := by
      unfold wY_one_26
      refine br_c (fun e4 => ym_isIn (fun w => absurd w ?_) (fun _ _ => br_f (by decide) hz)) (fun _ => hz)
      obtain ⟨m, m1, rfl⟩ := hm4 ((nI_eq (b := 4) (by omega) (by omega)).mp e4)
      exact fun w => w.elim (nI_pos (by omega)) (nI_nlt (a := 7) (by omega) (by omega))
    unfold wpY_one
    dsimp only
    refine ym_isIn (fun w => absurd w ?_) (fun _ _ => br_f (by decide) (br_c (fun e1 => ym_isIn (fun w => absurd w ?_) (fun _ _ => br_f (by decide) h26)) (fun _ => h26)))
    · exact fun w => w.elim n0 (fun w => Int32.not_lt.mpr n1 w)
    · obtain ⟨m, m1, rfl⟩ := hm ((nI_eq (b := 2) (by omega) (by omega)).mp e1)
      exact fun w => w.elim (nI_pos (by omega)) (nI_nlt (a := 9) (by omega) (by omega))
  rw [show (16 : Int32) + nI j = nI (16 + j) from nI_add 16 j]
  have g36 : (j = 2 → ∃ m, m < 10 ∧ v2 = nI m) → wX_one_36 (fun r u' => wpY_one (fun r' v' => r' = r ∧ i_Rel (k + 3) u' v') (yma, ypo, yhe, yvm, yin, yfi, yde, yap, yas, yto, yan, yco, yti, yna, yac, yen, yic, o, l, kS, d, pl, ys, yk, yn, yp, yf, yo, yi, yw, ya, y1, y2, yK, yW, yL, yq, nm, nv, no, yA, lf, rt, iK, iN) (nI j) v2) v2 (nI (16 + j)) xst xow xin xpa xfi xfr xno xsi xan xkn xen xco xrm xac K N Z D Im W P vS pO pX pI fS fP fI fU fR fO fA fH fG fN aS qL qR qP := by
    intro hm
    unfold wX_one_36
    refine br_c (fun e => ?_) (fun ne => go hm (fun e => absurd (by rw [e]; rfl) ne))
    have e1 : j = 4 := by
      have := (nI_eq (b := 20) (by omega) (by omega)).mp e
      omega
    subst e1
    refine br_c (fun z => bad _ (Or.inr (Or.inr (Or.inr ⟨rfl, Or.inl z⟩))) rfl) (fun m0 => br_c (fun m3 => go hm (fun _ => pu_rng rfl (by decide) m0 m3)) (fun z => bad _ (Or.inr (Or.inr (Or.inr ⟨rfl, Or.inr ?_⟩))) rfl))
    exact Classical.not_not.mp (fun w => z ((pu_lt (by decide)).mpr w))
  refine nm_e (br_c (fun e => ?_) (fun ne => g36 (fun e => absurd (by rw [e]; rfl) ne)))
  have e1 : j = 2 := by
    have := (nI_eq (b := 18) (by omega) (by omega)).mp e
    omega
  subst e1
  refine br_c (fun z => bad _ (Or.inr (Or.inr (Or.inl ⟨rfl, Or.inl z⟩))) rfl) (fun m0 => br_c (fun m3 => g36 (fun _ => pu_rng rfl (by decide) m0 m3)) (fun z => bad _ (Or.inr (Or.inr (Or.inl ⟨rfl, Or.inr ?_⟩))) rfl))
  exact Classical.not_not.mp (fun w => z ((pu_lt (by decide)).mpr w))
