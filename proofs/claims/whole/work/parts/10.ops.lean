/-! ===== leaf, one, two, three ===== -/
theorem pu_lt {x a b : Int32} (h : b.toInt + 1 = a.toInt) : x < a ↔ ¬ b < x := by
  rw [Int32.lt_iff_toInt_lt, Int32.lt_iff_toInt_lt]
  omega
theorem pu_rng {x a : Int32} {n : Nat} (ha : a = nI n) (hn : n < 2 ^ 31) (h0 : ¬ x < 0) (h : x < a) : ∃ m, m < n ∧ x = nI m := by
  subst ha
  rcases pk_ix x hn with z | z | z
  · exact absurd z h0
  · exact absurd h (Int32.not_lt.mpr z)
  · exact z
theorem ym_isIn {yma ypo yhe yvm : Int32} {yin : Int64} {yfi yde yap yas yto : Int32} {yan : Int64} {yco yti yna yac yen yic : Int32} {o l kS d : Nat → Int32} {pl ys : Nat → Int64} {yk yn yp yf yo : Nat → Int32} {yi : Nat → Int64} {yw ya y1 y2 : Nat → Int32} {yK : Nat → Int64} {yW : Nat → Int32} {yL : Nat → Int64} {yq nm : Nat → Int32} {nv : Nat → Int64} {no : Nat → Int32} {yA lf rt : Nat → Int64} {iK iN : Nat → Int32} {post : Int32 → Prop} {a b c : Int32} (h0 : (a < b ∨ c < a) → post 0) (h1 : ¬ a < b → ¬ c < a → post 1) : wpY_isIn post (yma, ypo, yhe, yvm, yin, yfi, yde, yap, yas, yto, yan, yco, yti, yna, yac, yen, yic, o, l, kS, d, pl, ys, yk, yn, yp, yf, yo, yi, yw, ya, y1, y2, yK, yW, yL, yq, nm, nv, no, yA, lf, rt, iK, iN) a b c := by
  unfold wpY_isIn
  dsimp only
  exact br_c (fun z => h0 (Or.inl z)) (fun z => br_c (fun z' => h0 (Or.inr z')) (fun z' => h1 z z'))
/-- a push that fits: one answer on both sides -/
theorem pu_ans {k : Nat} {xst xow xin xpa xfi xfr xno xsi xan xkn xen xco xrm xac : Int32} {K N Z D Im W P vS pO pX pI fS fP fI fU fR fO fA fH fG fN aS qL qR qP : Nat → Int32} {yma ypo yhe yvm : Int32} {yin : Int64} {yfi yde yap yas yto : Int32} {yan : Int64} {yco yti yna yac yen yic : Int32} {o l kS d : Nat → Int32} {pl ys : Nat → Int64} {yk yn yp yf yo : Nat → Int32} {yi : Nat → Int64} {yw ya y1 y2 : Nat → Int32} {yK : Nat → Int64} {yW : Nat → Int32} {yL : Nat → Int64} {yq nm : Nat → Int32} {nv : Nat → Int64} {no : Nat → Int32} {yA lf rt : Nat → Int64} {iK iN : Nat → Int32} {oq t : Nat} {x : Int32} (I : i_Rel k (xst, xow, xin, xpa, xfi, xfr, xno, xsi, xan, xkn, xen, xco, xrm, xac, K, N, Z, D, Im, W, P, vS, pO, pX, pI, fS, fP, fI, fU, fR, fO, fA, fH, fG, fN, aS, qL, qR, qP) (yma, ypo, yhe, yvm, yin, yfi, yde, yap, yas, yto, yan, yco, yti, yna, yac, yen, yic, o, l, kS, d, pl, ys, yk, yn, yp, yf, yo, yi, yw, ya, y1, y2, yK, yW, yL, yq, nm, nv, no, yA, lf, rt, iK, iN)) (ho : oq ≤ 35) (ha : fl_ar oq = t) (h8 : t = 0 → xfi ≠ nI 8)
    (hx : (oq = 5 → ∃ m, m < 8 ∧ x = nI m) ∧ (oq = 6 → -10 ≤ x.toInt ∧ x.toInt ≤ 9) ∧ (oq = 13 → ∃ m, m < 3 ∧ x = nI m) ∧ (oq = 18 → ∃ m, m < 10 ∧ x = nI m) ∧ (oq = 20 → ∃ m, m < 8 ∧ x = nI m) ∧ (oq = 33 → ∃ m, m < 3 ∧ x = nI m) ∧ (oq = 35 → ∃ m, m < 3 ∧ x = nI m)) :
    ∃ (r : Int32) (u' : SX) (v' : SY), i_Rel (k + 3) u' v' ∧ (∀ post : Int32 → SX → Prop, post r u' → wpX_pushPart post (xst, xow, xin, xpa, xfi, xfr, xno, xsi, xan, xkn, xen, xco, xrm, xac, K, N, Z, D, Im, W, P, vS, pO, pX, pI, fS, fP, fI, fU, fR, fO, fA, fH, fG, fN, aS, qL, qR, qP) (nI oq) x (nI t)) ∧ (∀ post : Int32 → SY → Prop, post r v' → wpY_push post (yma, ypo, yhe, yvm, yin, yfi, yde, yap, yas, yto, yan, yco, yti, yna, yac, yen, yic, o, l, kS, d, pl, ys, yk, yn, yp, yf, yo, yi, yw, ya, y1, y2, yK, yW, yL, yq, nm, nv, no, yA, lf, rt, iK, iN) (nI (fl_kk oq)) x (nI t)) := by
  have I0 := I
  obtain ⟨V, h, m, mk, pd, np, nf, hh, hf, hkn⟩ := I
  have hf0 := hf
  obtain ⟨f1, f2, f3, f4, f5, f6, f7⟩ := hf
  have h3 : t ≤ 3 := by rw [← ha]; unfold fl_ar; split <;> (try split) <;> (try split) <;> omega
  by_cases e40 : np = 40
  · subst e40
    exact ⟨_, _, _, i_up I0, fun post hp => xm_push40 f1 hp, fun post hp => ym_push40 f2 hp⟩
  by_cases eF : nf < t
  · exact ⟨_, _, _, i_up I0, fun post hp => xm_pushFew f1 f4 (Nat.lt_of_le_of_ne f3 e40) eF h3 hp, fun post hp => ym_pushFew f2 f5 (Nat.lt_of_le_of_ne f3 e40) eF h3 hp⟩
  have hl : nf - t < 8 := by
    have : t = 0 → nf ≠ 8 := fun z e => h8 z (by rw [f4, e])
    clear hx f7 hf0 I0 hh hkn
    omega
  have hn4 : np < 40 := Nat.lt_of_le_of_ne f3 e40
  have ht4 : t ≤ nf := Nat.not_lt.mp eF
  exact ⟨_, _, _, ⟨V, h, m, mk, pd, np + 1, nf - t + 1, hh, rl_f_push hf0 hn4 ht4 hl ho ha hx, Or.inl rfl⟩, fun post hp => xm_pushPart f1 f4 hn4 ht4 h3 f6 hl hp, fun post hp => ym_push f2 f5 hn4 ht4 h3 f6 hl hp⟩
theorem fl_v : fl_kk 16 = 20 ∧ fl_kk 17 = 21 ∧ fl_kk 18 = 22 ∧ fl_kk 19 = 23 ∧ fl_kk 20 = 24 := by decide
theorem fl_k0 {o : Nat} (h : o < 16) : fl_kk o = o ∧ fl_ar o = 0 := ⟨by unfold fl_kk; rw [if_pos h], by unfold fl_ar; rw [if_pos h]⟩
theorem fl_k1 {j : Nat} (h : j < 5) : fl_kk (16 + j) = 20 + j ∧ fl_ar (16 + j) = 1 := ⟨by unfold fl_kk; rw [if_neg (by omega), if_pos (by omega)]; omega, by unfold fl_ar; rw [if_neg (by omega), if_pos (by omega)]⟩
theorem fl_k2 {j : Nat} (h : j < 13) : fl_kk (21 + j) = 30 + j ∧ fl_ar (21 + j) = 2 := ⟨by unfold fl_kk; rw [if_neg (by omega), if_neg (by omega), if_pos (by omega)]; omega, by unfold fl_ar; rw [if_neg (by omega), if_neg (by omega), if_pos (by omega)]⟩
theorem fl_k3 {j : Nat} (h : j < 2) : fl_kk (34 + j) = 50 + j ∧ fl_ar (34 + j) = 3 := ⟨by unfold fl_kk; rw [if_neg (by omega), if_neg (by omega), if_neg (by omega)]; omega, by unfold fl_ar; rw [if_neg (by omega), if_neg (by omega), if_neg (by omega)]⟩
theorem i_vc_three {k : Nat} {u : SX} {v : SY} (I : i_Rel k u v) (hk : k + 3 ≤ 1536) (v1 : Int32) (v2 : Int32) : wpX_three (fun r u' => wpY_three (fun r' v' => r' = r ∧ i_Rel (k + 3) u' v') v v1 v2) u v1 v2 := by
  obtain ⟨xst, xow, xin, xpa, xfi, xfr, xno, xsi, xan, xkn, xen, xco, xrm, xac, K, N, Z, D, Im, W, P, vS, pO, pX, pI, fS, fP, fI, fU, fR, fO, fA, fH, fG, fN, aS, qL, qR, qP⟩ := u
  obtain ⟨yma, ypo, yhe, yvm, yin, yfi, yde, yap, yas, yto, yan, yco, yti, yna, yac, yen, yic, o, l, kS, d, pl, ys, yk, yn, yp, yf, yo, yi, yw, ya, y1, y2, yK, yW, yL, yq, nm, nv, no, yA, lf, rt, iK, iN⟩ := v
  have bad : ∀ r : Int32, (v1 < 0 ∨ 1 < v1 ∨ (v1 = 1 ∧ (v2 < 0 ∨ 2 < v2))) → r = -1000000001 → wpY_three (fun r' v' => r' = r ∧ i_Rel (k + 3) (xst, xow, xin, xpa, xfi, xfr, xno, xsi, xan, xkn, xen, xco, xrm, xac, K, N, Z, D, Im, W, P, vS, pO, pX, pI, fS, fP, fI, fU, fR, fO, fA, fH, fG, fN, aS, qL, qR, qP) v') (yma, ypo, yhe, yvm, yin, yfi, yde, yap, yas, yto, yan, yco, yti, yna, yac, yen, yic, o, l, kS, d, pl, ys, yk, yn, yp, yf, yo, yi, yw, ya, y1, y2, yK, yW, yL, yq, nm, nv, no, yA, lf, rt, iK, iN) v1 v2 := by
    intro r hb hr
    subst hr
    have hz : wY_three_29 (fun r' v' => r' = -1000000001 ∧ i_Rel (k + 3) (xst, xow, xin, xpa, xfi, xfr, xno, xsi, xan, xkn, xen, xco, xrm, xac, K, N, Z, D, Im, W, P, vS, pO, pX, pI, fS, fP, fI, fU, fR, fO, fA, fH, fG, fN, aS, qL, qR, qP) v') v1 v2 yma ypo yhe yvm yin yfi yde yap yas yto yan yco yti yna yac yen yic o l kS d pl ys yk yn yp yf yo yi yw ya y1 y2 yK yW yL yq nm nv no yA lf rt iK iN := by
      unfold wY_three_29 wY_three_30
      exact br_t rfl ⟨rfl, I⟩
    unfold wpY_three
    dsimp only
    refine ym_isIn (fun _ => br_t rfl hz) (fun n0 n1 => br_f (by decide) (br_c (fun e1 => ym_isIn (fun _ => br_t rfl hz) (fun m0 m2 => ?_)) (fun ne => ?_)))
    · exact absurd hb (fun w => w.elim n0 (fun w => w.elim n1 (fun w => w.2.elim m0 m2)))
    · exact absurd hb (fun w => w.elim n0 (fun w => w.elim n1 (fun w => ne w.1)))
  unfold wpX_three
  dsimp only
  refine br_c (fun z => bad _ (Or.inl z) rfl) (fun n0 => br_c (fun n1 => ?_) (fun z => bad _ (Or.inr (Or.inl (Int32.not_le.mp z))) rfl))
  obtain ⟨j, hj, rfl⟩ := nI_of2 (n := 1) (by decide) n0 n1
  have go : (j = 1 → ∃ m, m < 3 ∧ v2 = nI m) → wX_three_35 (fun r u' => wpY_three (fun r' v' => r' = r ∧ i_Rel (k + 3) u' v') (yma, ypo, yhe, yvm, yin, yfi, yde, yap, yas, yto, yan, yco, yti, yna, yac, yen, yic, o, l, kS, d, pl, ys, yk, yn, yp, yf, yo, yi, yw, ya, y1, y2, yK, yW, yL, yq, nm, nv, no, yA, lf, rt, iK, iN) (nI j) v2) v2 (nI (34 + j)) xst xow xin xpa xfi xfr xno xsi xan xkn xen xco xrm xac K N Z D Im W P vS pO pX pI fS fP fI fU fR fO fA fH fG fN aS qL qR qP := by
    intro hm
    obtain ⟨r, u', v', hI, hX, hY⟩ := pu_ans (x := v2) I (show 34 + j ≤ 35 by omega) (fl_k3 (by omega)).2 (fun z => absurd z (by decide)) ⟨fun z => absurd z (by omega), fun z => absurd z (by omega), fun z => absurd z (by omega), fun z => absurd z (by omega), fun z => absurd z (by omega), fun z => absurd z (by omega), fun z => hm (by omega)⟩
    rw [(fl_k3 (by omega)).1] at hY
    obtain ⟨xst', xow', xin', xpa', xfi', xfr', xno', xsi', xan', xkn', xen', xco', xrm', xac', K', N', Z', D', Im', W', P', vS', pO', pX', pI', fS', fP', fI', fU', fR', fO', fA', fH', fG', fN', aS', qL', qR', qP'⟩ := u'
    obtain ⟨yma', ypo', yhe', yvm', yin', yfi', yde', yap', yas', yto', yan', yco', yti', yna', yac', yen', yic', o', l', kS', d', pl', ys', yk', yn', yp', yf', yo', yi', yw', ya', y1', y2', yK', yW', yL', yq', nm', nv', no', yA', lf', rt', iK', iN'⟩ := v'
    unfold wX_three_35
    refine hX _ ?_
    dsimp only
    have hz : wY_three_25 (fun r' v' => r' = r ∧ i_Rel (k + 3) (xst', xow', xin', xpa', xfi', xfr', xno', xsi', xan', xkn', xen', xco', xrm', xac', K', N', Z', D', Im', W', P', vS', pO', pX', pI', fS', fP', fI', fU', fR', fO', fA', fH', fG', fN', aS', qL', qR', qP') v') (nI j) v2 yma ypo yhe yvm yin yfi yde yap yas yto yan yco yti yna yac yen yic o l kS d pl ys yk yn yp yf yo yi yw ya y1 y2 yK yW yL yq nm nv no yA lf rt iK iN := by
      unfold wY_three_25 wY_three_30
      refine br_f (by decide) ?_
      rw [show (50 : Int32) + nI j = nI (50 + j) from nI_add 50 j]
      exact hY _ ⟨rfl, hI⟩
    unfold wpY_three
    dsimp only
    refine ym_isIn (fun w => absurd w ?_) (fun _ _ => br_f (by decide) (br_c (fun e1 => ym_isIn (fun w => absurd w ?_) (fun _ _ => br_f (by decide) hz)) (fun _ => hz)))
    · exact fun w => w.elim n0 (fun w => Int32.not_lt.mpr n1 w)
    · obtain ⟨m, m1, rfl⟩ := hm ((nI_eq (b := 1) (by omega) (by omega)).mp e1)
      exact fun w => w.elim (nI_pos (by omega)) (nI_nlt (a := 2) (by omega) (by omega))
  rw [show (34 : Int32) + nI j = nI (34 + j) from nI_add 34 j]
  refine nm_e (br_c (fun e => ?_) (fun ne => go (fun e => absurd (by rw [e]; rfl) ne)))
  have e1 : j = 1 := by
    have := (nI_eq (b := 35) (by omega) (by omega)).mp e
    omega
  subst e1
  refine br_c (fun z => bad _ (Or.inr (Or.inr ⟨rfl, Or.inl z⟩)) rfl) (fun m0 => br_c (fun m3 => go (fun _ => pu_rng rfl (by decide) m0 m3)) (fun z => bad _ (Or.inr (Or.inr ⟨rfl, Or.inr ?_⟩)) rfl))
  exact Classical.not_not.mp (fun w => z ((pu_lt (by decide)).mpr w))
