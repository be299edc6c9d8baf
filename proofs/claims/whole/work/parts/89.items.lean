/-! ===== items, kind, number ===== -/
theorem it_k_mem {kb g : Nat → List (Int32 × Int32)} {p : Int32 × Int32} : ∀ n, p ∈ it_k kb g n → ∃ i, i < n ∧ (p ∈ kb i ∨ p ∈ g i)
  | 0, h => absurd h (by simp [it_k])
  | n + 1, h => by
    rw [it_k] at h
    rcases List.mem_append.mp h with w | w
    · obtain ⟨i, i1, i2⟩ := it_k_mem n w
      exact ⟨i, by omega, i2⟩
    · exact ⟨n, by omega, List.mem_append.mp w⟩
theorem it_x_kind {V : Nat → Prop} {K N Z D Im W P : Nat → Int32} (hx : vv_ox V K N Z D Im W P) : ∀ d s, V s → ∀ p, p ∈ it_x K N Z P d s → ∃ κ, κ < 16 ∧ p.1 = nI κ := by
  have hb : ∀ s p, V s → p ∈ [(K s, N s)] → ∃ κ, κ < 16 ∧ p.1 = nI κ := fun s p hs hp => by
    obtain ⟨_, κ, h5, eK⟩ := vx_k hx hs
    have : p = (K s, N s) := by simpa using hp
    rw [this]
    exact ⟨κ, by omega, eK⟩
  intro d
  induction d with
  | zero => intro s hs p hp; exact hb s p hs hp
  | succ d ih =>
    intro s hs p hp
    obtain ⟨z, hz, ez, hc⟩ := vv_ox_z hx hs
    have hch : ∀ i, i < z → V (dp_ch P s i) := fun i hi => by
      obtain ⟨c, e1, e2, e3⟩ := hc i hi
      rw [dp_ch, e1, nI_clamp (by omega)]
      exact e3
    rw [it_x] at hp
    by_cases h4 : K s = nI 4
    · rw [if_pos h4, ez, nI_clamp (by omega)] at hp
      rcases List.mem_cons.mp hp with w | w
      · rw [w]; exact ⟨4, by omega, rfl⟩
      · rcases List.mem_append.mp w with w | w
        · obtain ⟨i, i1, i2⟩ := it_k_mem z w
          rcases i2 with i2 | i2
          · exact absurd i2 (by simp)
          · exact ih _ (hch i i1) p i2
        · have : p = (5, 0) := by simpa using w
          rw [this]; exact ⟨5, by omega, rfl⟩
    · by_cases h5 : K s = nI 5
      · rw [if_neg h4, if_pos h5, ez, nI_clamp (by omega)] at hp
        rcases List.mem_cons.mp hp with w | w
        · rw [w]; exact ⟨6, by omega, rfl⟩
        · rcases List.mem_append.mp w with w | w
          · obtain ⟨i, i1, i2⟩ := it_k_mem z w
            rcases i2 with i2 | i2
            · have : p = (7, nI (ky_k (N s).toNatClampNeg i 8)) := by simpa using i2
              rw [this]; exact ⟨7, by omega, rfl⟩
            · exact ih _ (hch i i1) p i2
          · have : p = (8, 0) := by simpa using w
            rw [this]; exact ⟨8, by omega, rfl⟩
      · rw [if_neg h4, if_neg h5] at hp
        exact hb s p hs hp
theorem it_p_k {κ : Nat} (h : κ < 16) (y : Int32) : it_p (nI κ) y = yy_t κ y := yy_m32 h y
theorem it_p_n {κ : Nat} (h : κ < 16) (y : Int32) : ¬ yy_t κ y = -1 := fun e => by
  have h1 := yy_s32 h y
  rw [e] at h1
  have h2 : ((-1 : Int64) >>> ((32 : Int32).toInt64 &&& 63)).toInt32 = -1 := by decide
  rw [h2] at h1
  exact fr_n1 (by omega) h1.symm
theorem wa_Y {xst xow xin xpa xfi xfr xno xsi xan xkn xen xco xrm xac : Int32} {K N Z D Im W P vS pO pX pI fS fP fI fU fR fO fA fH fG fN aS qL qR qP : Nat → Int32} {yma ypo yhe yvm : Int32} {yin : Int64} {yfi yde yap yas yto : Int32} {yan : Int64} {yco yti yna yac yen yic : Int32} {o l kS d : Nat → Int32} {pl ys : Nat → Int64} {yk yn yp yf yo : Nat → Int32} {yi : Nat → Int64} {yw ya y1 y2 : Nat → Int32} {yK : Nat → Int64} {yW : Nat → Int32} {yL : Nat → Int64} {yq nm : Nat → Int32} {nv : Nat → Int64} {no : Nat → Int32} {yA lf rt : Nat → Int64} {iK iN : Nat → Int32} {k : Nat} (I : i_Rel k (xst, xow, xin, xpa, xfi, xfr, xno, xsi, xan, xkn, xen, xco, xrm, xac, K, N, Z, D, Im, W, P, vS, pO, pX, pI, fS, fP, fI, fU, fR, fO, fA, fH, fG, fN, aS, qL, qR, qP) (yma, ypo, yhe, yvm, yin, yfi, yde, yap, yas, yto, yan, yco, yti, yna, yac, yen, yic, o, l, kS, d, pl, ys, yk, yn, yp, yf, yo, yi, yw, ya, y1, y2, yK, yW, yL, yq, nm, nv, no, yA, lf, rt, iK, iN)) (hkn : xkn = 1) {post : Int32 → SY → Prop} {p0 : Int32}
    (h1 : (p0 < 0 ∨ ¬ p0 < xac) → ∀ (yma' ypo' yhe' yvm' : Int32) (yin' : Int64) (yfi' yde' yap' yas' yto' : Int32) (yan' : Int64) (yco' yti' yna' yac' yen' yic' : Int32) (o' l' kS' d' : Nat → Int32) (pl' ys' : Nat → Int64) (yk' yn' yp' yf' yo' : Nat → Int32) (yi' : Nat → Int64) (yw' ya' y1' y2' : Nat → Int32) (yK' : Nat → Int64) (yW' : Nat → Int32) (yL' : Nat → Int64) (yq' nm' : Nat → Int32) (nv' : Nat → Int64) (no' : Nat → Int32) (yA' lf' rt' : Nat → Int64) (iK' iN' : Nat → Int32), i_Rel k (xst, xow, xin, xpa, xfi, xfr, xno, xsi, xan, xkn, xen, xco, xrm, xac, K, N, Z, D, Im, W, P, vS, pO, pX, pI, fS, fP, fI, fU, fR, fO, fA, fH, fG, fN, aS, qL, qR, qP) (yma', ypo', yhe', yvm', yin', yfi', yde', yap', yas', yto', yan', yco', yti', yna', yac', yen', yic', o', l', kS', d', pl', ys', yk', yn', yp', yf', yo', yi', yw', ya', y1', y2', yK', yW', yL', yq', nm', nv', no', yA', lf', rt', iK', iN') → post (-1000000004) (yma', ypo', yhe', yvm', yin', yfi', yde', yap', yas', yto', yan', yco', yti', yna', yac', yen', yic', o', l', kS', d', pl', ys', yk', yn', yp', yf', yo', yi', yw', ya', y1', y2', yK', yW', yL', yq', nm', nv', no', yA', lf', rt', iK', iN'))
    (h2 : ∀ i s, p0 = nI i → i < 20 → p0 < xac → aS i = nI s → s < 653 → (it_x K N Z P 4 s).length ≤ 60 → ∀ (yma' ypo' yhe' yvm' : Int32) (yin' : Int64) (yfi' yde' yap' yas' yto' : Int32) (yan' : Int64) (yco' yti' yna' yac' yen' yic' : Int32) (o' l' kS' d' : Nat → Int32) (pl' ys' : Nat → Int64) (yk' yn' yp' yf' yo' : Nat → Int32) (yi' : Nat → Int64) (yw' ya' y1' y2' : Nat → Int32) (yK' : Nat → Int64) (yW' : Nat → Int32) (yL' : Nat → Int64) (yq' nm' : Nat → Int32) (nv' : Nat → Int64) (no' : Nat → Int32) (yA' lf' rt' : Nat → Int64) (iK' iN' : Nat → Int32), i_Rel k (xst, xow, xin, xpa, xfi, xfr, xno, xsi, xan, xkn, xen, xco, xrm, xac, K, N, Z, D, Im, W, P, vS, pO, pX, pI, fS, fP, fI, fU, fR, fO, fA, fH, fG, fN, aS, qL, qR, qP) (yma', ypo', yhe', yvm', yin', yfi', yde', yap', yas', yto', yan', yco', yti', yna', yac', yen', yic', o', l', kS', d', pl', ys', yk', yn', yp', yf', yo', yi', yw', ya', y1', y2', yK', yW', yL', yq', nm', nv', no', yA', lf', rt', iK', iN') → (∀ j, j < (it_x K N Z P 4 s).length → (it_x K N Z P 4 s)[j]? = some (iK' j, iN' j)) → post (nI (it_x K N Z P 4 s).length) (yma', ypo', yhe', yvm', yin', yfi', yde', yap', yas', yto', yan', yco', yti', yna', yac', yen', yic', o', l', kS', d', pl', ys', yk', yn', yp', yf', yo', yi', yw', ya', y1', y2', yK', yW', yL', yq', nm', nv', no', yA', lf', rt', iK', iN'))
    (h3 : ∀ i s, p0 = nI i → i < 20 → p0 < xac → aS i = nI s → s < 653 → 60 < (it_x K N Z P 4 s).length → ∀ (yma' ypo' yhe' yvm' : Int32) (yin' : Int64) (yfi' yde' yap' yas' yto' : Int32) (yan' : Int64) (yco' yti' yna' yac' yen' yic' : Int32) (o' l' kS' d' : Nat → Int32) (pl' ys' : Nat → Int64) (yk' yn' yp' yf' yo' : Nat → Int32) (yi' : Nat → Int64) (yw' ya' y1' y2' : Nat → Int32) (yK' : Nat → Int64) (yW' : Nat → Int32) (yL' : Nat → Int64) (yq' nm' : Nat → Int32) (nv' : Nat → Int64) (no' : Nat → Int32) (yA' lf' rt' : Nat → Int64) (iK' iN' : Nat → Int32), i_Rel k (xst, xow, xin, xpa, xfi, xfr, xno, xsi, xan, xkn, xen, xco, xrm, xac, K, N, Z, D, Im, W, P, vS, pO, pX, pI, fS, fP, fI, fU, fR, fO, fA, fH, fG, fN, aS, qL, qR, qP) (yma', ypo', yhe', yvm', yin', yfi', yde', yap', yas', yto', yan', yco', yti', yna', yac', yen', yic', o', l', kS', d', pl', ys', yk', yn', yp', yf', yo', yi', yw', ya', y1', y2', yK', yW', yL', yq', nm', nv', no', yA', lf', rt', iK', iN') → post (-1000000005) (yma', ypo', yhe', yvm', yin', yfi', yde', yap', yas', yto', yan', yco', yti', yna', yac', yen', yic', o', l', kS', d', pl', ys', yk', yn', yp', yf', yo', yi', yw', ya', y1', y2', yK', yW', yL', yq', nm', nv', no', yA', lf', rt', iK', iN')) : wpY_writeAnswer post (yma, ypo, yhe, yvm, yin, yfi, yde, yap, yas, yto, yan, yco, yti, yna, yac, yen, yic, o, l, kS, d, pl, ys, yk, yn, yp, yf, yo, yi, yw, ya, y1, y2, yK, yW, yL, yq, nm, nv, no, yA, lf, rt, iK, iN) p0 := by
  unfold wpY_writeAnswer
  dsimp only
  refine wo_B I hkn (fun yma' ypo' yhe' yvm' yin' yfi' yde' yap' yas' yto' yan' yco' yti' yna' yac' yen' yic' o' l' kS' d' pl' ys' yk' yn' yp' yf' yo' yi' yw' ya' y1' y2' yK' yW' yL' yq' nm' nv' no' yA' lf' rt' iK' iN' hI e1 e2 e3 hV => ?_)
  obtain ⟨V, a, mk', pd', hx, hy, ea, ha20, hva, hR⟩ := hV
  dsimp only
  refine br_c (fun hneg => h1 (Or.inl hneg) yma' ypo' yhe' yvm' yin' yfi' yde' yap' yas' yto' yan' yco' yti' yna' yac' yen' yic' o' l' kS' d' pl' ys' yk' yn' yp' yf' yo' yi' yw' ya' y1' y2' yK' yW' yL' yq' nm' nv' no' yA' lf' rt' iK' iN' hI) (fun hpos => ?_)
  rw [e3]
  refine br_c (fun hlt => ?_) (fun hge => h1 (Or.inr hge) yma' ypo' yhe' yvm' yin' yfi' yde' yap' yas' yto' yan' yco' yti' yna' xac yen' yic' o' l' kS' d' pl' ys' yk' yn' yp' yf' yo' yi' yw' ya' y1' y2' yK' yW' yL' yq' nm' nv' no' yA' lf' rt' iK' iN' hI)
  rcases pk_ix p0 (n := a) (by omega) with w | w | ⟨i, hi, ei⟩
  · exact absurd w hpos
  · rw [ea] at hlt
    exact absurd hlt (Int32.not_lt.mpr w)
  · obtain ⟨s, s1, s2⟩ := hva i hi
    have hs6 := (hx s s2).1
    have hRi := hR i hi
    rw [s1] at hRi
    have hD : (D s).toNatClampNeg ≤ 4 := by
      obtain ⟨e, e4, eD⟩ := vv_D hx s2
      rw [eD, nI_clamp (by omega)]
      exact e4
    have hcl : p0.toNatClampNeg = i := by rw [ei, nI_clamp (by omega)]
    refine ⟨by rw [ei]; exact vp_in_nI (by omega) (by omega), ?_⟩
    rw [hcl]
    unfold wpY_write
    dsimp only
    refine nm_e ⟨61 + 1, ?_⟩
    refine yi_14 (V := V) (K := K) (N := N) (Z := Z) (D := D) (Im := Im) (W := W) (P := P) (mk := mk') (pd := pd') (Λ := it_x K N Z P 4 s) (yic := yic') (lf := lf') (iK := iK') (iN := iN') hx hy (fun ic lf2 iK2 iN2 hic h61 hdone => ?_) 61 0 (by omega) (vp_updL lf' 0 (yA' i)) [(0, s, 4)] iK' iN' ⟨⟨by show 4 ≤ 4; omega, fun _ => ⟨?_, hs6, hD⟩, fun w => absurd w (by simp), fun w => absurd w (by simp)⟩, by show 0 ≤ 21 * (4 - 4); omega, trivial⟩ ?_ (fun j hj => absurd hj (by omega))
    · dsimp only
      have hI2 : i_Rel k (xst, xow, xin, xpa, xfi, xfr, xno, xsi, xan, xkn, xen, xco, xrm, xac, K, N, Z, D, Im, W, P, vS, pO, pX, pI, fS, fP, fI, fU, fR, fO, fA, fH, fG, fN, aS, qL, qR, qP) (yma', ypo', yhe', yvm', yin', yfi', yde', yap', yas', yto', yan', yco', yti', yna', xac, yen', (nI ic), o', l', kS', d', pl', ys', yk', yn', yp', yf', yo', yi', yw', ya', y1', y2', yK', yW', yL', yq', nm', nv', no', yA', lf2, rt', iK2, iN2) := hI
      rcases hic with w | ⟨w, w2⟩
      · by_cases h60 : ic ≤ 60
        · refine br_t (nI_le (b := 60) h60 (by omega)) ?_
          subst w
          exact h2 i s ei (by omega) hlt s1 hs6 h60 yma' ypo' yhe' yvm' yin' yfi' yde' yap' yas' yto' yan' yco' yti' yna' xac yen' (nI (it_x K N Z P 4 s).length) o' l' kS' d' pl' ys' yk' yn' yp' yf' yo' yi' yw' ya' y1' y2' yK' yW' yL' yq' nm' nv' no' yA' lf2 rt' iK2 iN2 hI2 hdone
        · refine br_f (nI_ge (a := 60) (by omega) (by omega)) (h3 i s ei (by omega) hlt s1 hs6 (by omega) yma' ypo' yhe' yvm' yin' yfi' yde' yap' yas' yto' yan' yco' yti' yna' xac yen' (nI ic) o' l' kS' d' pl' ys' yk' yn' yp' yf' yo' yi' yw' ya' y1' y2' yK' yW' yL' yq' nm' nv' no' yA' lf2 rt' iK2 iN2 hI2)
      · refine br_f (nI_ge (a := 60) (by omega) (by omega)) (h3 i s ei (by omega) hlt s1 hs6 (by omega) yma' ypo' yhe' yvm' yin' yfi' yde' yap' yas' yto' yan' yco' yti' yna' xac yen' (nI ic) o' l' kS' d' pl' ys' yk' yn' yp' yf' yo' yi' yw' ya' y1' y2' yK' yW' yL' yq' nm' nv' no' yA' lf2 rt' iK2 iN2 hI2)
    · show vv_R V K N Z D P mk' o' l' kS' d' pl' (nI s) (vp_updL lf' 0 (yA' i) 0)
      rw [pk_uLs]
      exact hRi
    · simp [is_l, ie_i]
/-- X's answers are whole values -/
theorem wa_X {xst xow xin xpa xfi xfr xno xsi xan xkn xen xco xrm xac : Int32} {K N Z D Im W P vS pO pX pI fS fP fI fU fR fO fA fH fG fN aS qL qR qP : Nat → Int32} {v : SY} {k : Nat} (I : i_Rel k (xst, xow, xin, xpa, xfi, xfr, xno, xsi, xan, xkn, xen, xco, xrm, xac, K, N, Z, D, Im, W, P, vS, pO, pX, pI, fS, fP, fI, fU, fR, fO, fA, fH, fG, fN, aS, qL, qR, qP) v) (hkn : xkn = 1) : ∃ (V : Nat → Prop) (a : Nat), vv_ox V K N Z D Im W P ∧ xac = nI a ∧ a ≤ 20 ∧ ∀ i, i < a → ∃ n, aS i = nI n ∧ V n := by
  obtain ⟨yma, ypo, yhe, yvm, yin, yfi, yde, yap, yas, yto, yan, yco, yti, yna, yac, yen, yic, o, l, kS, d, pl, ys, yk, yn, yp, yf, yo, yi, yw, ya, y1, y2, yK, yW, yL, yq, nm, nv, no, yA, lf, rt, iK, iN⟩ := v
  obtain ⟨V, h, m, mk, pd, np, nf, hh, hf, hk⟩ := I
  rcases hk with w | ⟨_, V', a, k1, k2, k3, k4, k5, k6⟩
  · rw [hkn] at w
    exact absurd w (by decide)
  · exact ⟨V', a, k1, k3, k4, k5⟩
theorem i_vc_items {k : Nat} {u : SX} {v : SY} (I : i_Rel k u v) (hk : k + 3 ≤ 1536) (v1 : Int32) : wpX_items (fun r u' => wpY_items (fun r' v' => r' = r ∧ i_Rel (k + 3) u' v') v v1) u v1 := by
  obtain ⟨xst, xow, xin, xpa, xfi, xfr, xno, xsi, xan, xkn, xen, xco, xrm, xac, K, N, Z, D, Im, W, P, vS, pO, pX, pI, fS, fP, fI, fU, fR, fO, fA, fH, fG, fN, aS, qL, qR, qP⟩ := u
  unfold wpX_items
  dsimp only
  refine wo_A I (fun xst' xow' xin' xpa' xfi' xfr' xno' xsi' xan' xkn' xen' xco' xrm' xac' K' N' Z' D' Im' W' P' vS' pO' pX' pI' fS' fP' fI' fU' fR' fO' fA' fH' fG' fN' aS' qL' qR' qP' hI hkn => ?_)
  obtain ⟨V, a, hx, ea, ha20, hva⟩ := wa_X hI hkn
  obtain ⟨yma, ypo, yhe, yvm, yin, yfi, yde, yap, yas, yto, yan, yco, yti, yna, yac, yen, yic, o, l, kS, d, pl, ys, yk, yn, yp, yf, yo, yi, yw, ya, y1, y2, yK, yW, yL, yq, nm, nv, no, yA, lf, rt, iK, iN⟩ := v
  dsimp only
  unfold wpY_items
  dsimp only
  refine br_c (fun hneg => ?_) (fun hpos => br_c (fun hlt => ?_) (fun hge => ?_))
  · exact wa_Y hI hkn (fun _ yma' ypo' yhe' yvm' yin' yfi' yde' yap' yas' yto' yan' yco' yti' yna' yac' yen' yic' o' l' kS' d' pl' ys' yk' yn' yp' yf' yo' yi' yw' ya' y1' y2' yK' yW' yL' yq' nm' nv' no' yA' lf' rt' iK' iN' hI' => ⟨rfl, hI'⟩) (fun i s ei _ _ _ _ _ => absurd hneg (by rw [ei]; exact nI_pos (by omega))) (fun i s ei _ _ _ _ _ => absurd hneg (by rw [ei]; exact nI_pos (by omega)))
  · rcases pk_ix v1 (n := a) (by omega) with w | w | ⟨i, hi, ei⟩
    · exact absurd w hpos
    · rw [ea] at hlt
      exact absurd hlt (Int32.not_lt.mpr w)
    · obtain ⟨s, s1, s2⟩ := hva i hi
      have hs6 := (hx s s2).1
      obtain ⟨⟨iv, e1, e2, e3⟩, _⟩ := vv_IW4 hx s2
      have hlen := it_x_len hx 4 s s2 (by
        obtain ⟨e, e4, eD⟩ := vv_D hx s2
        rw [eD, nI_clamp (by omega)]
        exact e4) (by omega)
      rw [e1, nI_clamp (by omega)] at hlen
      have hcl : v1.toNatClampNeg = i := by rw [ei, nI_clamp (by omega)]
      have huni : ∀ i' s', v1 = nI i' → i' < 20 → aS' i' = nI s' → s' < 653 → s' = s := fun i' s' f1 f2 f3 f4 => by
        have : i' = i := (nI_eq (by omega) (by omega)).mp (f1.symm.trans ei)
        subst this
        exact (nI_eq (by omega) (by omega)).mp (f3.symm.trans s1)
      rw [hcl, s1, nI_clamp (show s < 2 ^ 31 by omega), e1]
      refine ⟨by rw [ei]; exact vp_in_nI (by omega) (by omega), vp_in_nI hs6 (by omega), nm_e (pk_le iv 60 (fun h60 => ?_) (fun h60 => ?_))⟩
      · refine wa_Y hI hkn (fun w => absurd w (by intro w; rcases w with w | w; exact hpos w; exact w hlt)) (fun i' s' f1 f2 f3 f4 f5 f6 yma' ypo' yhe' yvm' yin' yfi' yde' yap' yas' yto' yan' yco' yti' yna' yac' yen' yic' o' l' kS' d' pl' ys' yk' yn' yp' yf' yo' yi' yw' ya' y1' y2' yK' yW' yL' yq' nm' nv' no' yA' lf' rt' iK' iN' hI' _ => ?_) (fun i' s' f1 f2 f3 f4 f5 f6 => ?_)
        · have := huni i' s' f1 f2 f4 f5
          subst this
          exact ⟨by rw [hlen], hI'⟩
        · have := huni i' s' f1 f2 f4 f5
          subst this
          omega
      · refine wa_Y hI hkn (fun w => absurd w (by intro w; rcases w with w | w; exact hpos w; exact w hlt)) (fun i' s' f1 f2 f3 f4 f5 f6 => ?_) (fun i' s' f1 f2 f3 f4 f5 f6 yma' ypo' yhe' yvm' yin' yfi' yde' yap' yas' yto' yan' yco' yti' yna' yac' yen' yic' o' l' kS' d' pl' ys' yk' yn' yp' yf' yo' yi' yw' ya' y1' y2' yK' yW' yL' yq' nm' nv' no' yA' lf' rt' iK' iN' hI' => ⟨rfl, hI'⟩)
        have := huni i' s' f1 f2 f4 f5
        subst this
        omega
  · exact wa_Y hI hkn (fun _ yma' ypo' yhe' yvm' yin' yfi' yde' yap' yas' yto' yan' yco' yti' yna' yac' yen' yic' o' l' kS' d' pl' ys' yk' yn' yp' yf' yo' yi' yw' ya' y1' y2' yK' yW' yL' yq' nm' nv' no' yA' lf' rt' iK' iN' hI' => ⟨rfl, hI'⟩) (fun i s _ _ w => absurd w hge) (fun i s _ _ w => absurd w hge)
/-- X's way to an item -/
theorem xi_of {xst xow xin xpa xfi xfr xno xsi xan xkn xen xco xrm xac : Int32} {K N Z D Im W P vS pO pX pI fS fP fI fU fR fO fA fH fG fN aS qL qR qP : Nat → Int32} {V : Nat → Prop} {a : Nat} (hx : vv_ox V K N Z D Im W P) (ea : xac = nI a) (ha20 : a ≤ 20) (hva : ∀ i, i < a → ∃ n, aS i = nI n ∧ V n) {post : Int64 → Prop} {p0 p1 : Int32}
    (hA : (p0 < 0 ∨ ¬ p0 < xac) → post (-1))
    (hB : ∀ i s, p0 = nI i → i < a → aS i = nI s → V s → (60 < (it_x K N Z P 4 s).length ∨ p1 < 0 ∨ nI (it_x K N Z P 4 s).length ≤ p1) → post (-1))
    (hC : ∀ i s j κ y, p0 = nI i → i < a → aS i = nI s → V s → (it_x K N Z P 4 s).length ≤ 60 → p1 = nI j → j < (it_x K N Z P 4 s).length → (it_x K N Z P 4 s)[j]? = some (nI κ, y) → κ < 16 → post (yy_t κ y)) : wpX_itemOf post (xst, xow, xin, xpa, xfi, xfr, xno, xsi, xan, xkn, xen, xco, xrm, xac, K, N, Z, D, Im, W, P, vS, pO, pX, pI, fS, fP, fI, fU, fR, fO, fA, fH, fG, fN, aS, qL, qR, qP) p0 p1 := by
  unfold wpX_itemOf
  dsimp only
  refine br_c (fun hneg => hA (Or.inl hneg)) (fun hpos => br_c (fun hlt => ?_) (fun hge => hA (Or.inr hge)))
  rcases pk_ix p0 (n := a) (by omega) with w | w | ⟨i, hi, ei⟩
  · exact absurd w hpos
  · rw [ea] at hlt
    exact absurd hlt (Int32.not_lt.mpr w)
  · obtain ⟨s, s1, s2⟩ := hva i hi
    have hs6 := (hx s s2).1
    obtain ⟨⟨iv, e1, e2, e3⟩, _⟩ := vv_IW4 hx s2
    have hD : (D s).toNatClampNeg ≤ 4 := by
      obtain ⟨e, e4, eD⟩ := vv_D hx s2
      rw [eD, nI_clamp (by omega)]
      exact e4
    have hlen := it_x_len hx 4 s s2 hD (by omega)
    rw [e1, nI_clamp (by omega)] at hlen
    have hcl : p0.toNatClampNeg = i := by rw [ei, nI_clamp (by omega)]
    rw [hcl, s1]
    refine ⟨by rw [ei]; exact vp_in_nI (by omega) (by omega), nm_e ⟨vp_in_nI hs6 (by omega), ?_⟩⟩
    rw [nI_clamp (show s < 2 ^ 31 by omega), e1]
    refine pk_lt 60 iv (fun h60 => hB i s ei hi s1 s2 (Or.inl (by omega))) (fun h60 => br_c (fun hn1 => hB i s ei hi s1 s2 (Or.inr (Or.inl hn1))) (fun hp1 => ⟨vp_in_nI hs6 (by omega), ?_⟩))
    rcases pk_ix p1 (n := iv) (by omega) with w | w | ⟨j, hj, ej⟩
    · exact absurd w hp1
    · exact br_f (Int32.not_lt.mpr w) (hB i s ei hi s1 s2 (Or.inr (Or.inr (by rw [hlen]; exact w))))
    · rw [ej]
      refine br_t (nI_lt hj (by omega)) ⟨4 + 1, ?_⟩
      refine xi_58 hx 4 0 s j (by omega) s2 hD (by rw [e1, nI_clamp (by omega)]; exact hj) (fun k y hg => ?_)
      obtain ⟨κ, κ1, κ2⟩ := it_x_kind hx 4 s s2 (k, y) (List.mem_of_getElem? hg)
      have κ2' : k = nI κ := κ2
      subst κ2'
      rw [it_p_k κ1]
      exact hC i s j κ y ei hi s1 s2 (by omega) ej (by omega) hg κ1
theorem le_neg {c p : Int32} (hc : c ≤ 0) (hp : ¬ p < 0) : c ≤ p := Int32.le_trans hc (Int32.not_lt.mp hp)
theorem i_vc_kind {k : Nat} {u : SX} {v : SY} (I : i_Rel k u v) (hk : k + 3 ≤ 1536) (v1 : Int32) (v2 : Int32) : wpX_kind (fun r u' => wpY_kind (fun r' v' => r' = r ∧ i_Rel (k + 3) u' v') v v1 v2) u v1 v2 := by
  obtain ⟨xst, xow, xin, xpa, xfi, xfr, xno, xsi, xan, xkn, xen, xco, xrm, xac, K, N, Z, D, Im, W, P, vS, pO, pX, pI, fS, fP, fI, fU, fR, fO, fA, fH, fG, fN, aS, qL, qR, qP⟩ := u
  unfold wpX_kind
  dsimp only
  refine wo_A I (fun xst' xow' xin' xpa' xfi' xfr' xno' xsi' xan' xkn' xen' xco' xrm' xac' K' N' Z' D' Im' W' P' vS' pO' pX' pI' fS' fP' fI' fU' fR' fO' fA' fH' fG' fN' aS' qL' qR' qP' hI hkn => ?_)
  obtain ⟨V, a, hx, ea, ha20, hva⟩ := wa_X hI hkn
  obtain ⟨yma, ypo, yhe, yvm, yin, yfi, yde, yap, yas, yto, yan, yco, yti, yna, yac, yen, yic, o, l, kS, d, pl, ys, yk, yn, yp, yf, yo, yi, yw, ya, y1, y2, yK, yW, yL, yq, nm, nv, no, yA, lf, rt, iK, iN⟩ := v
  dsimp only
  unfold wpY_kind
  dsimp only
  refine xi_of hx ea ha20 hva (fun hbad => ?_) (fun i s ei hi s1 s2 hbad => ?_) (fun i s j κ y ei hi s1 s2 h60 ej hj hg κ1 => ?_)
  · refine br_t rfl (wa_Y hI hkn (fun _ yma' ypo' yhe' yvm' yin' yfi' yde' yap' yas' yto' yan' yco' yti' yna' yac' yen' yic' o' l' kS' d' pl' ys' yk' yn' yp' yf' yo' yi' yw' ya' y1' y2' yK' yW' yL' yq' nm' nv' no' yA' lf' rt' iK' iN' hI' => ?_) (fun i s ei _ hlt _ _ _ => ?_) (fun i s ei _ hlt _ _ _ => ?_))
    · exact br_c (fun _ => ⟨rfl, hI'⟩) (fun hp => br_t (le_neg (by decide) hp) ⟨rfl, hI'⟩)
    · rcases hbad with w | w
      · exact absurd w (by rw [ei]; exact nI_pos (by omega))
      · exact absurd hlt w
    · rcases hbad with w | w
      · exact absurd w (by rw [ei]; exact nI_pos (by omega))
      · exact absurd hlt w
  · have hs6 := (hx s s2).1
    have huni : ∀ i' s', v1 = nI i' → i' < 20 → aS' i' = nI s' → s' < 653 → s' = s := fun i' s' f1 f2 f3 f4 => by
      have : i' = i := (nI_eq (by omega) (by omega)).mp (f1.symm.trans ei)
      subst this
      exact (nI_eq (by omega) (by omega)).mp (f3.symm.trans s1)
    refine br_t rfl (wa_Y hI hkn (fun w => ?_) (fun i' s' f1 f2 f3 f4 f5 f6 yma' ypo' yhe' yvm' yin' yfi' yde' yap' yas' yto' yan' yco' yti' yna' yac' yen' yic' o' l' kS' d' pl' ys' yk' yn' yp' yf' yo' yi' yw' ya' y1' y2' yK' yW' yL' yq' nm' nv' no' yA' lf' rt' iK' iN' hI' _ => ?_) (fun i' s' f1 f2 f3 f4 f5 f6 yma' ypo' yhe' yvm' yin' yfi' yde' yap' yas' yto' yan' yco' yti' yna' yac' yen' yic' o' l' kS' d' pl' ys' yk' yn' yp' yf' yo' yi' yw' ya' y1' y2' yK' yW' yL' yq' nm' nv' no' yA' lf' rt' iK' iN' hI' => ?_))
    · rcases w with w | w
      · exact absurd w (by rw [ei]; exact nI_pos (by omega))
      · exact absurd (show v1 < xac' by rw [ei, ea]; exact nI_lt hi (by omega)) w
    · have := huni i' s' f1 f2 f4 f5
      subst this
      refine br_c (fun _ => ⟨rfl, hI'⟩) (fun hp => br_t ?_ ⟨rfl, hI'⟩)
      rcases hbad with w | w | w
      · omega
      · exact absurd w hp
      · exact w
    · exact br_c (fun _ => ⟨rfl, hI'⟩) (fun hp => br_t (le_neg (by decide) hp) ⟨rfl, hI'⟩)
  · have hs6 := (hx s s2).1
    have huni : ∀ i' s', v1 = nI i' → i' < 20 → aS' i' = nI s' → s' < 653 → s' = s := fun i' s' f1 f2 f3 f4 => by
      have : i' = i := (nI_eq (by omega) (by omega)).mp (f1.symm.trans ei)
      subst this
      exact (nI_eq (by omega) (by omega)).mp (f3.symm.trans s1)
    refine br_f (it_p_n κ1 y) (wa_Y hI hkn (fun w => ?_) (fun i' s' f1 f2 f3 f4 f5 f6 yma' ypo' yhe' yvm' yin' yfi' yde' yap' yas' yto' yan' yco' yti' yna' yac' yen' yic' o' l' kS' d' pl' ys' yk' yn' yp' yf' yo' yi' yw' ya' y1' y2' yK' yW' yL' yq' nm' nv' no' yA' lf' rt' iK' iN' hI' hit => ?_) (fun i' s' f1 f2 f3 f4 f5 f6 => ?_))
    · rcases w with w | w
      · exact absurd w (by rw [ei]; exact nI_pos (by omega))
      · exact absurd (show v1 < xac' by rw [ei, ea]; exact nI_lt hi (by omega)) w
    · have := huni i' s' f1 f2 f4 f5
      subst this
      have g0 := (hit j hj).symm.trans hg
      have g : iK' j = nI κ ∧ iN' j = y := by
        have := Option.some.inj g0
        exact ⟨congrArg Prod.fst this, congrArg Prod.snd this⟩
      rw [ej, nI_clamp (show j < 2 ^ 31 by omega)]
      refine br_f (nI_pos (by omega)) (br_f (nI_ge hj (by omega)) ⟨vp_in_nI (by omega) (by omega), ?_, hI'⟩)
      exact g.1.trans (yy_s32 κ1 y).symm
    · have := huni i' s' f1 f2 f4 f5
      subst this
      omega
theorem i_vc_number {k : Nat} {u : SX} {v : SY} (I : i_Rel k u v) (hk : k + 3 ≤ 1536) (v1 : Int32) (v2 : Int32) : wpX_number (fun r u' => wpY_number (fun r' v' => r' = r ∧ i_Rel (k + 3) u' v') v v1 v2) u v1 v2 := by
  obtain ⟨xst, xow, xin, xpa, xfi, xfr, xno, xsi, xan, xkn, xen, xco, xrm, xac, K, N, Z, D, Im, W, P, vS, pO, pX, pI, fS, fP, fI, fU, fR, fO, fA, fH, fG, fN, aS, qL, qR, qP⟩ := u
  unfold wpX_number
  dsimp only
  refine wo_A I (fun xst' xow' xin' xpa' xfi' xfr' xno' xsi' xan' xkn' xen' xco' xrm' xac' K' N' Z' D' Im' W' P' vS' pO' pX' pI' fS' fP' fI' fU' fR' fO' fA' fH' fG' fN' aS' qL' qR' qP' hI hkn => ?_)
  obtain ⟨V, a, hx, ea, ha20, hva⟩ := wa_X hI hkn
  obtain ⟨yma, ypo, yhe, yvm, yin, yfi, yde, yap, yas, yto, yan, yco, yti, yna, yac, yen, yic, o, l, kS, d, pl, ys, yk, yn, yp, yf, yo, yi, yw, ya, y1, y2, yK, yW, yL, yq, nm, nv, no, yA, lf, rt, iK, iN⟩ := v
  dsimp only
  unfold wpY_number
  dsimp only
  refine xi_of hx ea ha20 hva (fun hbad => ?_) (fun i s ei hi s1 s2 hbad => ?_) (fun i s j κ y ei hi s1 s2 h60 ej hj hg κ1 => ?_)
  · refine br_t rfl (wa_Y hI hkn (fun _ yma' ypo' yhe' yvm' yin' yfi' yde' yap' yas' yto' yan' yco' yti' yna' yac' yen' yic' o' l' kS' d' pl' ys' yk' yn' yp' yf' yo' yi' yw' ya' y1' y2' yK' yW' yL' yq' nm' nv' no' yA' lf' rt' iK' iN' hI' => ?_) (fun i s ei _ hlt _ _ _ => ?_) (fun i s ei _ hlt _ _ _ => ?_))
    · exact br_c (fun _ => ⟨rfl, hI'⟩) (fun hp => br_t (le_neg (by decide) hp) ⟨rfl, hI'⟩)
    · rcases hbad with w | w
      · exact absurd w (by rw [ei]; exact nI_pos (by omega))
      · exact absurd hlt w
    · rcases hbad with w | w
      · exact absurd w (by rw [ei]; exact nI_pos (by omega))
      · exact absurd hlt w
  · have hs6 := (hx s s2).1
    have huni : ∀ i' s', v1 = nI i' → i' < 20 → aS' i' = nI s' → s' < 653 → s' = s := fun i' s' f1 f2 f3 f4 => by
      have : i' = i := (nI_eq (by omega) (by omega)).mp (f1.symm.trans ei)
      subst this
      exact (nI_eq (by omega) (by omega)).mp (f3.symm.trans s1)
    refine br_t rfl (wa_Y hI hkn (fun w => ?_) (fun i' s' f1 f2 f3 f4 f5 f6 yma' ypo' yhe' yvm' yin' yfi' yde' yap' yas' yto' yan' yco' yti' yna' yac' yen' yic' o' l' kS' d' pl' ys' yk' yn' yp' yf' yo' yi' yw' ya' y1' y2' yK' yW' yL' yq' nm' nv' no' yA' lf' rt' iK' iN' hI' _ => ?_) (fun i' s' f1 f2 f3 f4 f5 f6 yma' ypo' yhe' yvm' yin' yfi' yde' yap' yas' yto' yan' yco' yti' yna' yac' yen' yic' o' l' kS' d' pl' ys' yk' yn' yp' yf' yo' yi' yw' ya' y1' y2' yK' yW' yL' yq' nm' nv' no' yA' lf' rt' iK' iN' hI' => ?_))
    · rcases w with w | w
      · exact absurd w (by rw [ei]; exact nI_pos (by omega))
      · exact absurd (show v1 < xac' by rw [ei, ea]; exact nI_lt hi (by omega)) w
    · have := huni i' s' f1 f2 f4 f5
      subst this
      refine br_c (fun _ => ⟨rfl, hI'⟩) (fun hp => br_t ?_ ⟨rfl, hI'⟩)
      rcases hbad with w | w | w
      · omega
      · exact absurd w hp
      · exact w
    · exact br_c (fun _ => ⟨rfl, hI'⟩) (fun hp => br_t (le_neg (by decide) hp) ⟨rfl, hI'⟩)
  · have hs6 := (hx s s2).1
    have huni : ∀ i' s', v1 = nI i' → i' < 20 → aS' i' = nI s' → s' < 653 → s' = s := fun i' s' f1 f2 f3 f4 => by
      have : i' = i := (nI_eq (by omega) (by omega)).mp (f1.symm.trans ei)
      subst this
      exact (nI_eq (by omega) (by omega)).mp (f3.symm.trans s1)
    refine br_f (it_p_n κ1 y) (wa_Y hI hkn (fun w => ?_) (fun i' s' f1 f2 f3 f4 f5 f6 yma' ypo' yhe' yvm' yin' yfi' yde' yap' yas' yto' yan' yco' yti' yna' yac' yen' yic' o' l' kS' d' pl' ys' yk' yn' yp' yf' yo' yi' yw' ya' y1' y2' yK' yW' yL' yq' nm' nv' no' yA' lf' rt' iK' iN' hI' hit => ?_) (fun i' s' f1 f2 f3 f4 f5 f6 => ?_))
    · rcases w with w | w
      · exact absurd w (by rw [ei]; exact nI_pos (by omega))
      · exact absurd (show v1 < xac' by rw [ei, ea]; exact nI_lt hi (by omega)) w
    · have := huni i' s' f1 f2 f4 f5
      subst this
      have g0 := (hit j hj).symm.trans hg
      have g : iK' j = nI κ ∧ iN' j = y := by
        have := Option.some.inj g0
        exact ⟨congrArg Prod.fst this, congrArg Prod.snd this⟩
      rw [ej, nI_clamp (show j < 2 ^ 31 by omega)]
      refine br_f (nI_pos (by omega)) (br_f (nI_ge hj (by omega)) ⟨vp_in_nI (by omega) (by omega), ?_, hI'⟩)
      exact g.2.trans (yy_xt κ y).symm
    · have := huni i' s' f1 f2 f4 f5
      subst this
      omega
