theorem i_vc_leaf {k : Nat} {u : SX} {v : SY} (I : i_Rel k u v) (hk : k + 3 ≤ 1536) (v1 : Int32) (v2 : Int32) : wpX_leaf (fun r u' => wpY_leaf (fun r' v' => r' = r ∧ i_Rel (k + 3) u' v') v v1 v2) u v1 v2 := by
  obtain ⟨xst, xow, xin, xpa, xfi, xfr, xno, xsi, xan, xkn, xen, xco, xrm, xac, K, N, Z, D, Im, W, P, vS, pO, pX, pI, fS, fP, fI, fU, fR, fO, fA, fH, fG, fN, aS, qL, qR, qP⟩ := u
  obtain ⟨yma, ypo, yhe, yvm, yin, yfi, yde, yap, yas, yto, yan, yco, yti, yna, yac, yen, yic, o, l, kS, d, pl, ys, yk, yn, yp, yf, yo, yi, yw, ya, y1, y2, yK, yW, yL, yq, nm, nv, no, yA, lf, rt, iK, iN⟩ := v
  have bad : ∀ r : Int32, (v1 < 0 ∨ 15 < v1 ∨ (v1 = 5 ∧ (v2 < 0 ∨ 7 < v2)) ∨ (v1 = 6 ∧ (v2 < -10 ∨ 9 < v2)) ∨ (v1 = 13 ∧ (v2 < 0 ∨ 2 < v2))) → r = -1000000001 → wpY_leaf (fun r' v' => r' = r ∧ i_Rel (k + 3) (xst, xow, xin, xpa, xfi, xfr, xno, xsi, xan, xkn, xen, xco, xrm, xac, K, N, Z, D, Im, W, P, vS, pO, pX, pI, fS, fP, fI, fU, fR, fO, fA, fH, fG, fN, aS, qL, qR, qP) v') (yma, ypo, yhe, yvm, yin, yfi, yde, yap, yas, yto, yan, yco, yti, yna, yac, yen, yic, o, l, kS, d, pl, ys, yk, yn, yp, yf, yo, yi, yw, ya, y1, y2, yK, yW, yL, yq, nm, nv, no, yA, lf, rt, iK, iN) v1 v2 := by
    intro r hb hr
    subst hr
    have hz : wY_leaf_65 (fun r' v' => r' = -1000000001 ∧ i_Rel (k + 3) (xst, xow, xin, xpa, xfi, xfr, xno, xsi, xan, xkn, xen, xco, xrm, xac, K, N, Z, D, Im, W, P, vS, pO, pX, pI, fS, fP, fI, fU, fR, fO, fA, fH, fG, fN, aS, qL, qR, qP) v') v1 v2 yma ypo yhe yvm yin yfi yde yap yas yto yan yco yti yna yac yen yic o l kS d pl ys yk yn yp yf yo yi yw ya y1 y2 yK yW yL yq nm nv no yA lf rt iK iN := by
      unfold wY_leaf_65 wY_leaf_66
      exact br_t rfl ⟨rfl, I⟩
    have h45 : (¬ v1 < 0) → (¬ 15 < v1) → (¬ (v1 = 5 ∧ (v2 < 0 ∨ 7 < v2))) → (¬ (v1 = 6 ∧ (v2 < -10 ∨ 9 < v2))) → wY_leaf_45 (fun r' v' => r' = -1000000001 ∧ i_Rel (k + 3) (xst, xow, xin, xpa, xfi, xfr, xno, xsi, xan, xkn, xen, xco, xrm, xac, K, N, Z, D, Im, W, P, vS, pO, pX, pI, fS, fP, fI, fU, fR, fO, fA, fH, fG, fN, aS, qL, qR, qP) v') v1 v2 yma ypo yhe yvm yin yfi yde yap yas yto yan yco yti yna yac yen yic o l kS d pl ys yk yn yp yf yo yi yw ya y1 y2 yK yW yL yq nm nv no yA lf rt iK iN := by
      intro n0 n15 n5 n6
      unfold wY_leaf_45
      refine br_c (fun e => ym_isIn (fun _ => br_t rfl hz) (fun m0 m2 => ?_)) (fun ne => ?_)
      · exact absurd hb (fun w => w.elim n0 (fun w => w.elim n15 (fun w => w.elim n5 (fun w => w.elim n6 (fun w => w.2.elim m0 m2)))))
      · exact absurd hb (fun w => w.elim n0 (fun w => w.elim n15 (fun w => w.elim n5 (fun w => w.elim n6 (fun w => ne w.1)))))
    have h27 : (¬ v1 < 0) → (¬ 15 < v1) → (¬ (v1 = 5 ∧ (v2 < 0 ∨ 7 < v2))) → wY_leaf_27 (fun r' v' => r' = -1000000001 ∧ i_Rel (k + 3) (xst, xow, xin, xpa, xfi, xfr, xno, xsi, xan, xkn, xen, xco, xrm, xac, K, N, Z, D, Im, W, P, vS, pO, pX, pI, fS, fP, fI, fU, fR, fO, fA, fH, fG, fN, aS, qL, qR, qP) v') v1 v2 yma ypo yhe yvm yin yfi yde yap yas yto yan yco yti yna yac yen yic o l kS d pl ys yk yn yp yf yo yi yw ya y1 y2 yK yW yL yq nm nv no yA lf rt iK iN := by
      intro n0 n15 n5
      unfold wY_leaf_27
      exact br_c (fun e => ym_isIn (fun _ => br_t rfl hz) (fun m0 m9 => br_f (by decide) (h45 n0 n15 n5 (fun w => w.2.elim m0 m9)))) (fun ne => h45 n0 n15 n5 (fun w => ne w.1))
    unfold wpY_leaf
    dsimp only
    exact ym_isIn (fun _ => br_t rfl hz) (fun n0 n15 => br_f (by decide) (br_c (fun e2 => ym_isIn (fun _ => br_t rfl hz) (fun m0 m7 => br_f (by decide) (h27 n0 n15 (fun w => w.2.elim m0 m7)))) (fun ne => h27 n0 n15 (fun w => ne w.1))))
  unfold wpX_leaf
  dsimp only
  refine br_c (fun z => bad _ (Or.inl z) rfl) (fun n0 => br_c (fun n1 => ?_) (fun z => bad _ (Or.inr (Or.inl (Int32.not_le.mp z))) rfl))
  obtain ⟨j, hj, rfl⟩ := nI_of2 (n := 15) (by decide) n0 n1
  have go : (j = 5 → ∃ m, m < 8 ∧ v2 = nI m) → (j = 6 → ¬ v2 < -10 ∧ v2 < 10) → (j = 13 → ∃ m, m < 3 ∧ v2 = nI m) → wX_leaf_70 (fun r u' => wpY_leaf (fun r' v' => r' = r ∧ i_Rel (k + 3) u' v') (yma, ypo, yhe, yvm, yin, yfi, yde, yap, yas, yto, yan, yco, yti, yna, yac, yen, yic, o, l, kS, d, pl, ys, yk, yn, yp, yf, yo, yi, yw, ya, y1, y2, yK, yW, yL, yq, nm, nv, no, yA, lf, rt, iK, iN) (nI j) v2) (nI j) v2 xst xow xin xpa xfi xfr xno xsi xan xkn xen xco xrm xac K N Z D Im W P vS pO pX pI fS fP fI fU fR fO fA fH fG fN aS qL qR qP := by
    intro hm5 hm6 hm13
    -- Y's walk, once the arguments are found good
    have ywk : ∀ (r : Int32) (u' : SX), wY_leaf_61 (fun r' v' => r' = r ∧ i_Rel (k + 3) u' v') (nI j) v2 yma ypo yhe yvm yin yfi yde yap yas yto yan yco yti yna yac yen yic o l kS d pl ys yk yn yp yf yo yi yw ya y1 y2 yK yW yL yq nm nv no yA lf rt iK iN → wpY_leaf (fun r' v' => r' = r ∧ i_Rel (k + 3) u' v') (yma, ypo, yhe, yvm, yin, yfi, yde, yap, yas, yto, yan, yco, yti, yna, yac, yen, yic, o, l, kS, d, pl, ys, yk, yn, yp, yf, yo, yi, yw, ya, y1, y2, yK, yW, yL, yq, nm, nv, no, yA, lf, rt, iK, iN) (nI j) v2 := by
      intro r u' hz
      have h45 : wY_leaf_45 (fun r' v' => r' = r ∧ i_Rel (k + 3) u' v') (nI j) v2 yma ypo yhe yvm yin yfi yde yap yas yto yan yco yti yna yac yen yic o l kS d pl ys yk yn yp yf yo yi yw ya y1 y2 yK yW yL yq nm nv no yA lf rt iK iN := by
        unfold wY_leaf_45
        refine br_c (fun e => ym_isIn (fun w => absurd w ?_) (fun _ _ => br_f (by decide) hz)) (fun _ => hz)
        obtain ⟨m, m1, rfl⟩ := hm13 ((nI_eq (b := 13) (by omega) (by omega)).mp e)
        exact fun w => w.elim (nI_pos (by omega)) (nI_nlt (a := 2) (by omega) (by omega))
      have h27 : wY_leaf_27 (fun r' v' => r' = r ∧ i_Rel (k + 3) u' v') (nI j) v2 yma ypo yhe yvm yin yfi yde yap yas yto yan yco yti yna yac yen yic o l kS d pl ys yk yn yp yf yo yi yw ya y1 y2 yK yW yL yq nm nv no yA lf rt iK iN := by
        unfold wY_leaf_27
        refine br_c (fun e => ym_isIn (fun w => absurd w ?_) (fun _ _ => br_f (by decide) h45)) (fun _ => h45)
        obtain ⟨m1, m2⟩ := hm6 ((nI_eq (b := 6) (by omega) (by omega)).mp e)
        exact fun w => w.elim m1 ((pu_lt (by decide)).mp m2)
      unfold wpY_leaf
      dsimp only
      refine ym_isIn (fun w => absurd w ?_) (fun _ _ => br_f (by decide) (br_c (fun e1 => ym_isIn (fun w => absurd w ?_) (fun _ _ => br_f (by decide) h27)) (fun _ => h27)))
      · exact fun w => w.elim n0 (fun w => Int32.not_lt.mpr n1 w)
      · obtain ⟨m, m1, rfl⟩ := hm5 ((nI_eq (b := 5) (by omega) (by omega)).mp e1)
        exact fun w => w.elim (nI_pos (by omega)) (nI_nlt (a := 7) (by omega) (by omega))
    unfold wX_leaf_70
    have I0 := I
    obtain ⟨V, h, m, mk, pd, np, nf, hh, ⟨f1, f2, f3, f4, f5, f6, f7⟩, hkn⟩ := I
    refine br_c (fun h8 => ?_) (fun h8 => ?_)
    · have n8 : nf ≠ 8 := by
        intro e
        rw [f4, e] at h8
        exact absurd h8 (by decide)
      have h6 : j = 6 → -10 ≤ v2.toInt ∧ v2.toInt ≤ 9 := by
        intro z
        obtain ⟨m1, m2⟩ := hm6 z
        rw [Int32.lt_iff_toInt_lt] at m1 m2
        have e1 : (-10 : Int32).toInt = -10 := by decide
        have e2 : (10 : Int32).toInt = 10 := by decide
        clear hh hkn I0
        omega
      obtain ⟨r, u', v', hI, hX, hY⟩ := pu_ans (x := v2) I0 (show j ≤ 35 by omega) (fl_k0 (by omega)).2 (fun _ e => n8 ((nI_eq (by omega) (by omega)).mp (f4.symm.trans e))) ⟨fun z => hm5 z, h6, fun z => hm13 z, fun z => absurd z (by omega), fun z => absurd z (by omega), fun z => absurd z (by omega), fun z => absurd z (by omega)⟩
      rw [(fl_k0 (by omega)).1] at hY
      obtain ⟨xst', xow', xin', xpa', xfi', xfr', xno', xsi', xan', xkn', xen', xco', xrm', xac', K', N', Z', D', Im', W', P', vS', pO', pX', pI', fS', fP', fI', fU', fR', fO', fA', fH', fG', fN', aS', qL', qR', qP'⟩ := u'
      obtain ⟨yma', ypo', yhe', yvm', yin', yfi', yde', yap', yas', yto', yan', yco', yti', yna', yac', yen', yic', o', l', kS', d', pl', ys', yk', yn', yp', yf', yo', yi', yw', ya', y1', y2', yK', yW', yL', yq', nm', nv', no', yA', lf', rt', iK', iN'⟩ := v'
      refine hX _ ?_
      dsimp only
      refine ywk _ _ ?_
      unfold wY_leaf_61 wY_leaf_66
      exact br_f (by decide) (hY _ ⟨rfl, hI⟩)
    · have e8 : nf = 8 := by
        rcases Nat.lt_or_ge nf 8 with z | z
        · rw [f4] at h8
          exact absurd (nI_lt (b := 8) z (by decide)) h8
        · omega
      refine ywk _ _ ?_
      unfold wY_leaf_61 wY_leaf_66
      refine br_f (by decide) ?_
      unfold wpY_push
      dsimp only
      have e8' : yde = 8 := by rw [f5, e8]; rfl
      exact br_c (fun _ => ⟨rfl, i_up I0⟩) (fun _ => br_t rfl (br_t e8' ⟨rfl, i_up I0⟩))
  have g52 : (j = 5 → ∃ m, m < 8 ∧ v2 = nI m) → (j = 6 → ¬ v2 < -10 ∧ v2 < 10) → wX_leaf_52 (fun r u' => wpY_leaf (fun r' v' => r' = r ∧ i_Rel (k + 3) u' v') (yma, ypo, yhe, yvm, yin, yfi, yde, yap, yas, yto, yan, yco, yti, yna, yac, yen, yic, o, l, kS, d, pl, ys, yk, yn, yp, yf, yo, yi, yw, ya, y1, y2, yK, yW, yL, yq, nm, nv, no, yA, lf, rt, iK, iN) (nI j) v2) (nI j) v2 xst xow xin xpa xfi xfr xno xsi xan xkn xen xco xrm xac K N Z D Im W P vS pO pX pI fS fP fI fU fR fO fA fH fG fN aS qL qR qP := by
    intro hm5 hm6
    unfold wX_leaf_52
    refine br_c (fun e => ?_) (fun ne => go hm5 hm6 (fun e => absurd (by rw [e]; rfl) ne))
    refine br_c (fun z => bad _ (Or.inr (Or.inr (Or.inr (Or.inr ⟨e, Or.inl z⟩)))) rfl) (fun m0 => br_c (fun m3 => go hm5 hm6 (fun _ => pu_rng rfl (by decide) m0 m3)) (fun z => bad _ (Or.inr (Or.inr (Or.inr (Or.inr ⟨e, Or.inr ?_⟩)))) rfl))
    exact Classical.not_not.mp (fun w => z ((pu_lt (by decide)).mpr w))
  have g31 : (j = 5 → ∃ m, m < 8 ∧ v2 = nI m) → wX_leaf_31 (fun r u' => wpY_leaf (fun r' v' => r' = r ∧ i_Rel (k + 3) u' v') (yma, ypo, yhe, yvm, yin, yfi, yde, yap, yas, yto, yan, yco, yti, yna, yac, yen, yic, o, l, kS, d, pl, ys, yk, yn, yp, yf, yo, yi, yw, ya, y1, y2, yK, yW, yL, yq, nm, nv, no, yA, lf, rt, iK, iN) (nI j) v2) (nI j) v2 xst xow xin xpa xfi xfr xno xsi xan xkn xen xco xrm xac K N Z D Im W P vS pO pX pI fS fP fI fU fR fO fA fH fG fN aS qL qR qP := by
    intro hm5
    unfold wX_leaf_31
    refine br_c (fun e => ?_) (fun ne => g52 hm5 (fun e => absurd (by rw [e]; rfl) ne))
    refine br_c (fun z => bad _ (Or.inr (Or.inr (Or.inr (Or.inl ⟨e, Or.inl z⟩)))) rfl) (fun m0 => br_c (fun m3 => g52 hm5 (fun _ => ⟨m0, m3⟩)) (fun z => bad _ (Or.inr (Or.inr (Or.inr (Or.inl ⟨e, Or.inr ?_⟩)))) rfl))
    exact Classical.not_not.mp (fun w => z ((pu_lt (by decide)).mpr w))
  refine br_c (fun e => ?_) (fun ne => g31 (fun e => absurd (by rw [e]; rfl) ne))
  refine br_c (fun z => bad _ (Or.inr (Or.inr (Or.inl ⟨e, Or.inl z⟩))) rfl) (fun m0 => br_c (fun m3 => g31 (fun _ => pu_rng rfl (by decide) m0 m3)) (fun z => bad _ (Or.inr (Or.inr (Or.inl ⟨e, Or.inr ?_⟩))) rfl))
  exact Classical.not_not.mp (fun w => z ((pu_lt (by decide)).mpr w))
