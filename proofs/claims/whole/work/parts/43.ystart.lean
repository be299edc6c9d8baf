/-! ===== Y: asked ===== -/
theorem ys_pre {yma ypo yhe yvm : Int32} {yin : Int64} {yfi yde yap yas yto : Int32} {yan : Int64} {yco yti yna yac yen yic : Int32} {o l kS d : Nat → Int32} {pl ys : Nat → Int64} {yk yn yp yf yo : Nat → Int32} {yi : Nat → Int64} {yw ya y1 y2 : Nat → Int32} {yK : Nat → Int64} {yW : Nat → Int32} {yL : Nat → Int64} {yq nm : Nat → Int32} {nv : Nat → Int64} {no : Nat → Int32} {yA lf rt : Nat → Int64} {iK iN : Nat → Int32} {post : SY → Prop} {g q kk : Nat} (hg : g < 600) (eo : yo g = nI q) (hq : q < 40) (ek : yk q = nI kk) (hk : kk < 60)
    (hl : kk < 20 → wpY_startLeaf (fun u => match u with | (yma', ypo', yhe', yvm', yin', yfi', yde', yap', yas', yto', yan', yco', yti', yna', yac', yen', yic', o', l', kS', d', pl', ys', yk', yn', yp', yf', yo', yi', yw', ya', y1', y2', yK', yW', yL', yq', nm', nv', no', yA', lf', rt', iK', iN') => post (yma', ypo', yhe', yvm', yin', yfi', yde', yap', yas', yto', yan', yco', yti', yna', yac', yen', yic', o', l', kS', d', pl', ys', yk', yn', yp', yf', yo', yi', yw', ya', y1', y2', yK', yW', yL', yq', nm', nv', no', yA', lf', rt', iK', iN')) (yma, ypo, yhe, yvm, yin, yfi, yde, yap, yas, yto, yan, yco, yti, yna, yac, yen, yic, o, l, kS, d, pl, ys, yk, yn, yp, yf, yo, yi, yw, ya, y1, y2, yK, yW, yL, yq, nm, nv, no, yA, lf, rt, iK, iN) (nI g)) (ha : kk = 20 → ya g = 0 → wpY_askFirst (fun u => match u with | (yma', ypo', yhe', yvm', yin', yfi', yde', yap', yas', yto', yan', yco', yti', yna', yac', yen', yic', o', l', kS', d', pl', ys', yk', yn', yp', yf', yo', yi', yw', ya', y1', y2', yK', yW', yL', yq', nm', nv', no', yA', lf', rt', iK', iN') => post (yma', ypo', yhe', yvm', yin', yfi', yde', yap', yas', yto', yan', yco', yti', yna', yac', yen', yic', o', l', kS', d', pl', ys', yk', yn', yp', yf', yo', yi', yw', ya', y1', y2', yK', yW', yL', yq', nm', nv', no', yA', lf', rt', iK', iN')) (yma, (ypo + 10), yhe, yvm, yin, yfi, yde, yap, yas, yto, yan, yco, yti, yna, yac, yen, yic, o, l, kS, d, pl, ys, yk, yn, yp, yf, yo, yi, yw, (upd ya g (ypo + 1)), y1, y2, yK, yW, yL, yq, nm, nv, no, yA, lf, rt, iK, iN) (nI g)) (h84 : 20 ≤ kk → (kk = 20 → ¬ ya g = 0) → wY_start_84 post (nI g) (nI kk) (yn q) yma ypo yhe yvm yin yfi yde yap yas yto yan yco yti yna yac yen yic o l kS d pl ys yk yn yp yf yo yi yw ya y1 y2 yK yW yL yq nm nv no yA lf rt iK iN) : wpY_start post (yma, ypo, yhe, yvm, yin, yfi, yde, yap, yas, yto, yan, yco, yti, yna, yac, yen, yic, o, l, kS, d, pl, ys, yk, yn, yp, yf, yo, yi, yw, ya, y1, y2, yK, yW, yL, yq, nm, nv, no, yA, lf, rt, iK, iN) (nI g) := by
  have eg' : (nI g).toNatClampNeg = g := nI_clamp (by omega)
  have hin : vp_in (nI g) 601 := vp_in_nI (by omega) (by omega)
  have hiq : vp_in (nI q) 40 := vp_in_nI hq (by omega)
  unfold wpY_start
  dsimp only
  rw [eg', eo, nI_clamp (show q < 2 ^ 31 by omega), ek]
  refine ⟨hin, hiq, nm_e ⟨hin, hiq, nm_e (pk_le 20 kk (fun w => pk_eq kk 20 (fun e => ⟨hin, br_c (fun z => ⟨hin, nm_e (nm_e (ha e z))⟩) (fun z => h84 w (fun _ => z))⟩) (fun ne => h84 w (fun e => absurd e ne))) (fun w => hl w))⟩⟩
theorem ys_leaf {yma ypo yhe yvm : Int32} {yin : Int64} {yfi yde yap yas yto : Int32} {yan : Int64} {yco yti yna yac yen yic : Int32} {o l kS d : Nat → Int32} {pl ys : Nat → Int64} {yk yn yp yf yo : Nat → Int32} {yi : Nat → Int64} {yw ya y1 y2 : Nat → Int32} {yK : Nat → Int64} {yW : Nat → Int32} {yL : Nat → Int64} {yq nm : Nat → Int32} {nv : Nat → Int64} {no : Nat → Int32} {yA lf rt : Nat → Int64} {iK iN : Nat → Int32} {yma' ypo' yhe' yvm' : Int32} {yin' : Int64} {yfi' yde' yap' yas' yto' : Int32} {yan' : Int64} {yco' yti' yna' yac' yen' yic' : Int32} {o' l' kS' d' : Nat → Int32} {pl' ys' : Nat → Int64} {yk' yn' yp' yf' yo' : Nat → Int32} {yi' : Nat → Int64} {yw' ya' y1' y2' : Nat → Int32} {yK' : Nat → Int64} {yW' : Nat → Int32} {yL' : Nat → Int64} {yq' nm' : Nat → Int32} {nv' : Nat → Int64} {no' : Nat → Int32} {yA' lf' rt' : Nat → Int64} {iK' iN' : Nat → Int32} {post : SY → Prop} {g q kk : Nat} (hg : g < 600) (eo : yo g = nI q) (hq : q < 40) (ek : yk q = nI kk) (hk : kk < 16) (n7 : kk ≠ 7) (n15 : kk ≠ 15) (n8 : kk ≠ 8) (e0 : ya g = 0)
    (hA : ∀ Q : SY → Prop, Q (yma', ypo', yhe', yvm', yin', yfi', yde', yap', yas', yto', yan', yco', yti', yna', yac', yen', yic', o', l', kS', d', pl', ys', yk', yn', yp', yf', yo', yi', yw', ya', y1', y2', yK', yW', yL', yq', nm', nv', no', yA', lf', rt', iK', iN') → wpY_tellLeaf Q (yma, ypo, yhe, yvm, yin, yfi, yde, yap, yas, yto, yan, yco, yti, yna, yac, yen, yic, o, l, kS, d, pl, ys, yk, yn, yp, yf, yo, yi, yw, (upd ya g 1), y1, y2, yK, yW, yL, yq, nm, nv, no, yA, lf, rt, iK, iN) (nI g) (nI kk) (yn q)) (hp : post (yma', ypo', yhe', yvm', yin', yfi', yde', yap', yas', yto', yan', yco', yti', yna', yac', yen', yic', o', l', kS', d', pl', ys', yk', yn', yp', yf', yo', yi', yw', ya', y1', y2', yK', yW', yL', yq', nm', nv', no', yA', lf', rt', iK', iN')) : wpY_start post (yma, ypo, yhe, yvm, yin, yfi, yde, yap, yas, yto, yan, yco, yti, yna, yac, yen, yic, o, l, kS, d, pl, ys, yk, yn, yp, yf, yo, yi, yw, ya, y1, y2, yK, yW, yL, yq, nm, nv, no, yA, lf, rt, iK, iN) (nI g) := by
  have eg' : (nI g).toNatClampNeg = g := nI_clamp (by omega)
  have hin : vp_in (nI g) 601 := vp_in_nI (by omega) (by omega)
  have hiq : vp_in (nI q) 40 := vp_in_nI hq (by omega)
  refine ys_pre hg eo hq ek (by omega) (fun _ => ?_) (fun e => absurd e (by omega)) (fun w => absurd w (by omega))
  unfold wpY_startLeaf
  dsimp only
  rw [eg', eo, nI_clamp (show q < 2 ^ 31 by omega), ek, e0]
  exact ⟨hin, hiq, nm_e (br_f (fun z => n7 ((nI_eq (b := 7) (by omega) (by omega)).mp z)) (br_f (fun z => n15 ((nI_eq (b := 15) (by omega) (by omega)).mp z)) (br_f (fun z => n8 ((nI_eq (b := 8) (by omega) (by omega)).mp z)) ⟨hin, br_f (by decide) ⟨hin, nm_e ⟨hin, hiq, hA _ hp⟩⟩⟩)))⟩
theorem ys_end {yma ypo yhe yvm : Int32} {yin : Int64} {yfi yde yap yas yto : Int32} {yan : Int64} {yco yti yna yac yen yic : Int32} {o l kS d : Nat → Int32} {pl ys : Nat → Int64} {yk yn yp yf yo : Nat → Int32} {yi : Nat → Int64} {yw ya y1 y2 : Nat → Int32} {yK : Nat → Int64} {yW : Nat → Int32} {yL : Nat → Int64} {yq nm : Nat → Int32} {nv : Nat → Int64} {no : Nat → Int32} {yA lf rt : Nat → Int64} {iK iN : Nat → Int32} {post : SY → Prop} {g q kk a : Nat} (hg : g < 600) (eo : yo g = nI q) (hq : q < 40) (ek : yk q = nI kk) (hk : kk < 16) (n7 : kk ≠ 7) (n15 : kk ≠ 15) (h8 : kk = 8 ∨ ya g = 1) (ea : yas = nI (a + 1))
    (hp : post (yma, ypo, yhe, yvm, yin, yfi, yde, yap, (nI a), 1, 0, yco, yti, yna, yac, yen, yic, o, l, kS, d, pl, ys, yk, yn, yp, yf, yo, yi, yw, ya, y1, y2, yK, yW, yL, yq, nm, nv, no, yA, lf, rt, iK, iN)) : wpY_start post (yma, ypo, yhe, yvm, yin, yfi, yde, yap, yas, yto, yan, yco, yti, yna, yac, yen, yic, o, l, kS, d, pl, ys, yk, yn, yp, yf, yo, yi, yw, ya, y1, y2, yK, yW, yL, yq, nm, nv, no, yA, lf, rt, iK, iN) (nI g) := by
  have eg' : (nI g).toNatClampNeg = g := nI_clamp (by omega)
  have hin : vp_in (nI g) 601 := vp_in_nI (by omega) (by omega)
  have hiq : vp_in (nI q) 40 := vp_in_nI hq (by omega)
  refine ys_pre hg eo hq ek (by omega) (fun _ => ?_) (fun e => absurd e (by omega)) (fun w => absurd w (by omega))
  unfold wpY_startLeaf
  dsimp only
  rw [eg', eo, nI_clamp (show q < 2 ^ 31 by omega), ek]
  have k56 : wY_startLeaf_56 (fun u => match u with | (yma', ypo', yhe', yvm', yin', yfi', yde', yap', yas', yto', yan', yco', yti', yna', yac', yen', yic', o', l', kS', d', pl', ys', yk', yn', yp', yf', yo', yi', yw', ya', y1', y2', yK', yW', yL', yq', nm', nv', no', yA', lf', rt', iK', iN') => post (yma', ypo', yhe', yvm', yin', yfi', yde', yap', yas', yto', yan', yco', yti', yna', yac', yen', yic', o', l', kS', d', pl', ys', yk', yn', yp', yf', yo', yi', yw', ya', y1', y2', yK', yW', yL', yq', nm', nv', no', yA', lf', rt', iK', iN')) yma ypo yhe yvm yin yfi yde yap yas yto yan yco yti yna yac yen yic o l kS d pl ys yk yn yp yf yo yi yw ya y1 y2 yK yW yL yq nm nv no yA lf rt iK iN := by
    unfold wY_startLeaf_56
    exact yr_tell ea hp
  refine ⟨hin, hiq, nm_e (br_f (fun z => n7 ((nI_eq (b := 7) (by omega) (by omega)).mp z)) (br_f (fun z => n15 ((nI_eq (b := 15) (by omega) (by omega)).mp z)) (br_c (fun _ => k56) (fun n8 => ⟨hin, br_t ?_ k56⟩))))⟩
  rcases h8 with w | w
  · exact absurd (by rw [w]; rfl) n8
  · exact w
theorem ys_each {yma ypo yhe yvm : Int32} {yin : Int64} {yfi yde yap yas yto : Int32} {yan : Int64} {yco yti yna yac yen yic : Int32} {o l kS d : Nat → Int32} {pl ys : Nat → Int64} {yk yn yp yf yo : Nat → Int32} {yi : Nat → Int64} {yw ya y1 y2 : Nat → Int32} {yK : Nat → Int64} {yW : Nat → Int32} {yL : Nat → Int64} {yq nm : Nat → Int32} {nv : Nat → Int64} {no : Nat → Int32} {yA lf rt : Nat → Int64} {iK iN : Nat → Int32} {post : SY → Prop} {g q a κ c gv : Nat} {x : Int32} (hg : g < 600) (eo : yo g = nI q) (hq : q < 40) (ek : yk q = nI 7) (ea : yas = nI (a + 1)) (ew : yi g = yy_t κ x) (hκ : κ ≤ 5) (ec : yco = nI c) (hc : c ≤ 600) (eW : yW g = nI gv) (hgv : gv ≤ 10)
    (h2 : κ < 4 → post (yma, ypo, yhe, yvm, yin, yfi, yde, yap, (nI a), 2, 0, yco, yti, yna, yac, yen, yic, o, l, kS, d, pl, ys, yk, yn, yp, yf, yo, yi, yw, ya, y1, y2, yK, yW, yL, yq, nm, nv, no, yA, lf, rt, iK, iN))
    (h4 : 4 ≤ κ → ∃ j oa z, x = nI j ∧ j < 760 ∧ o j = nI oa ∧ l j = nI z ∧ z ≤ 10 ∧ oa + z ≤ 8200 ∧ gv ≤ z ∧ (gv = z → post (yma, ypo, yhe, yvm, yin, yfi, yde, yap, (nI a), 1, 0, yco, yti, yna, yac, yen, yic, o, l, kS, d, pl, ys, yk, yn, yp, yf, yo, yi, yw, ya, y1, y2, yK, yW, yL, yq, nm, nv, no, yA, lf, rt, iK, iN)) ∧ (gv < z → c = 600 → post (yma, ypo, yhe, yvm, yin, yfi, yde, yap, yas, yto, yan, yco, 1, yna, yac, yen, yic, o, l, kS, d, pl, ys, yk, yn, yp, yf, yo, yi, yw, ya, y1, y2, yK, yW, yL, yq, nm, nv, no, yA, lf, rt, iK, iN)) ∧ (gv < z → c < 600 → post (yma, ypo, yhe, yvm, yin, yfi, yde, yap, (nI a), 0, (pl (oa + gv)), (nI (c + 1)), yti, yna, yac, yen, yic, o, l, kS, d, pl, ys, yk, yn, yp, yf, yo, yi, yw, ya, y1, y2, yK, (upd yW g (nI (gv + 1))), yL, yq, nm, nv, no, yA, lf, rt, iK, iN))) : wpY_start post (yma, ypo, yhe, yvm, yin, yfi, yde, yap, yas, yto, yan, yco, yti, yna, yac, yen, yic, o, l, kS, d, pl, ys, yk, yn, yp, yf, yo, yi, yw, ya, y1, y2, yK, yW, yL, yq, nm, nv, no, yA, lf, rt, iK, iN) (nI g) := by
  have eg' : (nI g).toNatClampNeg = g := nI_clamp (by omega)
  have hin : vp_in (nI g) 601 := vp_in_nI (by omega) (by omega)
  have hiq : vp_in (nI q) 40 := vp_in_nI hq (by omega)
  refine ys_pre hg eo hq ek (by omega) (fun _ => ?_) (fun e => absurd e (by omega)) (fun w => absurd w (by omega))
  unfold wpY_startLeaf
  dsimp only
  rw [eg', eo, nI_clamp (show q < 2 ^ 31 by omega), ek]
  refine ⟨hin, hiq, nm_e (br_t rfl ?_)⟩
  unfold wpY_tellEach
  dsimp only
  rw [eg', ew]
  refine ⟨hin, nm_e (ym_sort (by omega) (pk_le 4 κ (fun k4 => ⟨hin, ?_⟩) (fun k4 => yr_tell ea (h2 k4))))⟩
  obtain ⟨j, oa, z, j1, j2, j3, j4, j5, j6, j7, j8, j9, j10⟩ := h4 k4
  subst j1
  refine ym_lengthOf j2 ?_
  rw [j4, eW]
  refine pk_eq gv z (fun e => yr_tell ea (j8 e)) (fun ne => ?_)
  by_cases c6 : c = 600
  · subst c6
    exact yr_tired ec (br_t rfl (j9 (by omega) rfl))
  · refine yr_count ec (by omega) ?_
    dsimp only
    rw [eW, nI_1]
    refine br_f (by decide) ⟨hin, hin, nm_e ⟨hin, ?_⟩⟩
    rw [pk_us, nI_pred]
    exact ym_place j2 j3 (by omega) (yr_tell ea (j10 (by omega) (by omega)))
theorem ys_deep {yma ypo yhe yvm : Int32} {yin : Int64} {yfi yde yap yas yto : Int32} {yan : Int64} {yco yti yna yac yen yic : Int32} {o l kS d : Nat → Int32} {pl ys : Nat → Int64} {yk yn yp yf yo : Nat → Int32} {yi : Nat → Int64} {yw ya y1 y2 : Nat → Int32} {yK : Nat → Int64} {yW : Nat → Int32} {yL : Nat → Int64} {yq nm : Nat → Int32} {nv : Nat → Int64} {no : Nat → Int32} {yA lf rt : Nat → Int64} {iK iN : Nat → Int32} {V : Nat → Prop} {K N Z D Im W P : Nat → Int32} {post : SY → Prop} {g q a c mk pd s : Nat} (hx : vv_ox V K N Z D Im W P) (hy : vv_cy mk pd o l pl) (hs : s < 653) (hR : vv_R V K N Z D P mk o l kS d pl (nI s) (yi g)) (hg : g < 600) (eo : yo g = nI q) (hq : q < 40) (ek : yk q = nI 15) (ea : yas = nI (a + 1)) (ec : yco = nI c) (hc : c ≤ 600)
    (h0 : ya g = 0 → (c = 600 → post (yma, ypo, yhe, yvm, yin, yfi, yde, yap, yas, yto, yan, yco, 1, yna, yac, yen, yic, o, l, kS, d, pl, ys, yk, yn, yp, yf, yo, yi, yw, ya, y1, y2, yK, yW, yL, yq, nm, nv, no, yA, lf, rt, iK, iN)) ∧ (c < 600 → post (yma, ypo, yhe, yvm, yin, yfi, yde, yap, (nI a), 0, (yi g), (nI (c + 1)), yti, yna, yac, yen, yic, o, l, kS, d, pl, ys, yk, yn, yp, yf, yo, yi, yw, (upd ya g 1), y1, y2, yK, (upd yW g 1), yL, yq, nm, nv, no, yA, lf, rt, iK, iN)))
    (h1 : ¬ ya g = 0 → ∃ p, yW g = nI (dp_wy p) ∧ dp_ok Z P p s ∧ (dp_ix W P p s + 1 = (W s).toNatClampNeg → post (yma, ypo, yhe, yvm, yin, yfi, yde, yap, (nI a), 1, 0, yco, yti, yna, yac, yen, yic, o, l, kS, d, pl, ys, yk, yn, yp, yf, yo, yi, yw, ya, y1, y2, yK, yW, yL, yq, nm, nv, no, yA, lf, rt, iK, iN)) ∧
      ∀ p2, dp_ok Z P p2 s → p2.length ≤ 4 → dp_ix W P p2 s = dp_ix W P p s + 1 → (c = 600 → post (yma, ypo, yhe, yvm, yin, yfi, yde, yap, yas, yto, yan, yco, 1, yna, yac, yen, yic, o, l, kS, d, pl, ys, yk, yn, yp, yf, yo, yi, yw, ya, y1, y2, yK, yW, yL, yq, nm, nv, no, yA, lf, rt, iK, iN)) ∧ (c < 600 → ∀ w, vv_R V K N Z D P mk o l kS d pl (nI (dp_at P p2 s)) w → post (yma, ypo, yhe, yvm, yin, yfi, yde, yap, (nI a), 0, w, (nI (c + 1)), yti, yna, yac, yen, yic, o, l, kS, d, pl, ys, yk, yn, yp, yf, yo, yi, yw, ya, y1, y2, yK, (upd yW g (nI (dp_wy p2))), yL, yq, nm, nv, no, yA, lf, rt, iK, iN))) : wpY_start post (yma, ypo, yhe, yvm, yin, yfi, yde, yap, yas, yto, yan, yco, yti, yna, yac, yen, yic, o, l, kS, d, pl, ys, yk, yn, yp, yf, yo, yi, yw, ya, y1, y2, yK, yW, yL, yq, nm, nv, no, yA, lf, rt, iK, iN) (nI g) := by
  have eg' : (nI g).toNatClampNeg = g := nI_clamp (by omega)
  have hin : vp_in (nI g) 601 := vp_in_nI (by omega) (by omega)
  have hiq : vp_in (nI q) 40 := vp_in_nI hq (by omega)
  refine ys_pre hg eo hq ek (by omega) (fun _ => ?_) (fun e => absurd e (by omega)) (fun w => absurd w (by omega))
  unfold wpY_startLeaf
  dsimp only
  rw [eg', eo, nI_clamp (show q < 2 ^ 31 by omega), ek]
  refine ⟨hin, hiq, nm_e (br_f (by decide) (br_t rfl ?_))⟩
  unfold wpY_tellDeep
  dsimp only
  rw [eg']
  refine ⟨hin, br_c (fun z => ?_) (fun z => ⟨hin, ?_⟩)⟩
  · obtain ⟨t1, t2⟩ := h0 z
    by_cases c6 : c = 600
    · subst c6
      exact yr_tired ec (br_t rfl (t1 rfl))
    · refine yr_count ec (by omega) ?_
      dsimp only
      exact br_f (by decide) ⟨hin, nm_e ⟨hin, nm_e ⟨hin, yr_tell ea (t2 (by omega))⟩⟩⟩
  · obtain ⟨p, p1, p2, p3, p4⟩ := h1 z
    rw [p1]
    refine nm_e (yd_loop hx hy hs hR hg p2 (fun w => ?_) (fun p5 o5 l5 x5 => ?_))
    · unfold wY_tellDeep_94
      exact br_t rfl (yr_tell ea (p3 w))
    · obtain ⟨t1, t2⟩ := p4 p5 o5 l5 x5
      have V0 : V s := by
        obtain ⟨n, e1, e2, e3, _⟩ := hR
        have : n = s := (nI_eq (by omega) (by omega)).mp e1.symm
        subst this
        exact e3
      obtain ⟨ds, d4, de⟩ := vv_D hx V0
      obtain ⟨l1, l2⟩ := dp_len hx p5 s ds V0 de d4 o5
      have hd16 : ∀ k, k ∈ p5 → k < 16 := fun k hk => by have := l2 k hk; omega
      have hb := dp_wy_1 p5 hd16 (by omega)
      have hb2 := (dp_wy_b p5 hd16).1
      have hp1 : 0 < 16 ^ p5.length := Nat.pow_pos (by decide)
      unfold wY_tellDeep_94
      rw [eg']
      refine br_f (nI_ne0 (by omega) (by omega)) ?_
      by_cases c6 : c = 600
      · subst c6
        exact yr_tired ec (br_t rfl (t1 rfl))
      · refine yr_count ec (by omega) ?_
        dsimp only
        exact br_f (by decide) ⟨hin, nm_e ⟨hin, ym_atWay hx hy hs hR hd16 (by omega) o5 (fun w hw => yr_tell ea (t2 (by omega) w hw))⟩⟩
theorem ys_all0 {yma ypo yhe yvm : Int32} {yin : Int64} {yfi yde yap yas yto : Int32} {yan : Int64} {yco yti yna yac yen yic : Int32} {o l kS d : Nat → Int32} {pl ys : Nat → Int64} {yk yn yp yf yo : Nat → Int32} {yi : Nat → Int64} {yw ya y1 y2 : Nat → Int32} {yK : Nat → Int64} {yW : Nat → Int32} {yL : Nat → Int64} {yq nm : Nat → Int32} {nv : Nat → Int64} {no : Nat → Int32} {yA lf rt : Nat → Int64} {iK iN : Nat → Int32} {yma' ypo' yhe' yvm' : Int32} {yin' : Int64} {yfi' yde' yap' yas' yto' : Int32} {yan' : Int64} {yco' yti' yna' yac' yen' yic' : Int32} {o' l' kS' d' : Nat → Int32} {pl' ys' : Nat → Int64} {yk' yn' yp' yf' yo' : Nat → Int32} {yi' : Nat → Int64} {yw' ya' y1' y2' : Nat → Int32} {yK' : Nat → Int64} {yW' : Nat → Int32} {yL' : Nat → Int64} {yq' nm' : Nat → Int32} {nv' : Nat → Int64} {no' : Nat → Int32} {yA' lf' rt' : Nat → Int64} {iK' iN' : Nat → Int32} {post : SY → Prop} {g q pd : Nat} (hg : g < 600) (eo : yo g = nI q) (hq : q < 40) (ek : yk q = nI 20) (e0 : ya g = 0) (ep : ypo = nI pd)
    (hA : ∀ Q : SY → Prop, Q (yma', ypo', yhe', yvm', yin', yfi', yde', yap', yas', yto', yan', yco', yti', yna', yac', yen', yic', o', l', kS', d', pl', ys', yk', yn', yp', yf', yo', yi', yw', ya', y1', y2', yK', yW', yL', yq', nm', nv', no', yA', lf', rt', iK', iN') → wpY_askFirst Q (yma, (nI (pd + 10)), yhe, yvm, yin, yfi, yde, yap, yas, yto, yan, yco, yti, yna, yac, yen, yic, o, l, kS, d, pl, ys, yk, yn, yp, yf, yo, yi, yw, (upd ya g (nI (pd + 1))), y1, y2, yK, yW, yL, yq, nm, nv, no, yA, lf, rt, iK, iN) (nI g)) (hp : post (yma', ypo', yhe', yvm', yin', yfi', yde', yap', yas', yto', yan', yco', yti', yna', yac', yen', yic', o', l', kS', d', pl', ys', yk', yn', yp', yf', yo', yi', yw', ya', y1', y2', yK', yW', yL', yq', nm', nv', no', yA', lf', rt', iK', iN')) : wpY_start post (yma, ypo, yhe, yvm, yin, yfi, yde, yap, yas, yto, yan, yco, yti, yna, yac, yen, yic, o, l, kS, d, pl, ys, yk, yn, yp, yf, yo, yi, yw, ya, y1, y2, yK, yW, yL, yq, nm, nv, no, yA, lf, rt, iK, iN) (nI g) := by
  subst ep
  refine ys_pre hg eo hq ek (by omega) (fun w => absurd w (by omega)) (fun _ _ => ?_) (fun _ w => absurd e0 (w rfl))
  rw [nI_1, show nI pd + 10 = nI (pd + 10) from nI_add pd 10]
  exact hA _ hp
theorem ys_tell1 {yma ypo yhe yvm : Int32} {yin : Int64} {yfi yde yap yas yto : Int32} {yan : Int64} {yco yti yna yac yen yic : Int32} {o l kS d : Nat → Int32} {pl ys : Nat → Int64} {yk yn yp yf yo : Nat → Int32} {yi : Nat → Int64} {yw ya y1 y2 : Nat → Int32} {yK : Nat → Int64} {yW : Nat → Int32} {yL : Nat → Int64} {yq nm : Nat → Int32} {nv : Nat → Int64} {no : Nat → Int32} {yA lf rt : Nat → Int64} {iK iN : Nat → Int32} {post : SY → Prop} {g q kk a : Nat} (hg : g < 600) (eo : yo g = nI q) (hq : q < 40) (ek : yk q = nI kk) (hk : kk < 60) (h20 : 20 ≤ kk) (ea : yas = nI (a + 1)) (hz : (kk = 20 ∧ ¬ ya g = 0) ∨ (kk = 22 ∧ yW g = yn q) ∨ (kk = 51 ∧ ya g = 3))
    (hp : post (yma, ypo, yhe, yvm, yin, yfi, yde, yap, (nI a), 1, 0, yco, yti, yna, yac, yen, yic, o, l, kS, d, pl, ys, yk, yn, yp, yf, yo, yi, yw, ya, y1, y2, yK, yW, yL, yq, nm, nv, no, yA, lf, rt, iK, iN)) : wpY_start post (yma, ypo, yhe, yvm, yin, yfi, yde, yap, yas, yto, yan, yco, yti, yna, yac, yen, yic, o, l, kS, d, pl, ys, yk, yn, yp, yf, yo, yi, yw, ya, y1, y2, yK, yW, yL, yq, nm, nv, no, yA, lf, rt, iK, iN) (nI g) := by
  have eg' : (nI g).toNatClampNeg = g := nI_clamp (by omega)
  have hin : vp_in (nI g) 601 := vp_in_nI (by omega) (by omega)
  refine ys_pre hg eo hq ek hk (fun w => absurd w (by omega)) (fun e w => ?_) (fun _ w => ?_)
  · rcases hz with ⟨_, z⟩ | ⟨z, _⟩ | ⟨z, _⟩
    · exact absurd w z
    · omega
    · omega
  · have k106 : wY_start_106 post yma ypo yhe yvm yin yfi yde yap yas yto yan yco yti yna yac yen yic o l kS d pl ys yk yn yp yf yo yi yw ya y1 y2 yK yW yL yq nm nv no yA lf rt iK iN := by
      unfold wY_start_106
      exact yr_tell ea hp
    unfold wY_start_84
    rw [eg']
    refine pk_eq kk 20 (fun _ => k106) (fun n20 => pk_eq kk 22 (fun e => ⟨hin, br_t ?_ k106⟩) (fun n22 => ?_))
    · rcases hz with ⟨z, _⟩ | ⟨_, z⟩ | ⟨z, _⟩
      · omega
      · exact z
      · omega
    · have e51 : kk = 51 ∧ ya g = 3 := by
        rcases hz with ⟨z, _⟩ | ⟨z, _⟩ | z
        · omega
        · omega
        · exact z
      unfold wY_start_115
      refine br_t (by rw [e51.1]; rfl) ?_
      unfold wpY_startFold
      dsimp only
      rw [eg']
      exact ⟨hin, br_t e51.2 (yr_tell ea hp)⟩
theorem ys_fold0 {yma ypo yhe yvm : Int32} {yin : Int64} {yfi yde yap yas yto : Int32} {yan : Int64} {yco yti yna yac yen yic : Int32} {o l kS d : Nat → Int32} {pl ys : Nat → Int64} {yk yn yp yf yo : Nat → Int32} {yi : Nat → Int64} {yw ya y1 y2 : Nat → Int32} {yK : Nat → Int64} {yW : Nat → Int32} {yL : Nat → Int64} {yq nm : Nat → Int32} {nv : Nat → Int64} {no : Nat → Int32} {yA lf rt : Nat → Int64} {iK iN : Nat → Int32} {yma' ypo' yhe' yvm' : Int32} {yin' : Int64} {yfi' yde' yap' yas' yto' : Int32} {yan' : Int64} {yco' yti' yna' yac' yen' yic' : Int32} {o' l' kS' d' : Nat → Int32} {pl' ys' : Nat → Int64} {yk' yn' yp' yf' yo' : Nat → Int32} {yi' : Nat → Int64} {yw' ya' y1' y2' : Nat → Int32} {yK' : Nat → Int64} {yW' : Nat → Int32} {yL' : Nat → Int64} {yq' nm' : Nat → Int32} {nv' : Nat → Int64} {no' : Nat → Int32} {yA' lf' rt' : Nat → Int64} {iK' iN' : Nat → Int32} {post : SY → Prop} {g q : Nat} (hg : g < 600) (eo : yo g = nI q) (hq : q < 40) (ek : yk q = nI 51) (n3 : ¬ ya g = 3)
    (hA : ∀ Q : SY → Prop, Q (yma', ypo', yhe', yvm', yin', yfi', yde', yap', yas', yto', yan', yco', yti', yna', yac', yen', yic', o', l', kS', d', pl', ys', yk', yn', yp', yf', yo', yi', yw', ya', y1', y2', yK', yW', yL', yq', nm', nv', no', yA', lf', rt', iK', iN') → wpY_askSecond Q (yma, ypo, yhe, yvm, yin, yfi, yde, yap, yas, yto, yan, yco, yti, yna, yac, yen, yic, o, l, kS, d, pl, ys, yk, yn, yp, yf, yo, yi, yw, ya, y1, y2, yK, yW, yL, yq, nm, nv, no, yA, lf, rt, iK, iN) (nI g) (nI 1) (yi g) (yw g)) (hp : post (yma', ypo', yhe', yvm', yin', yfi', yde', yap', yas', yto', yan', yco', yti', yna', yac', yen', yic', o', l', kS', d', pl', ys', yk', yn', yp', yf', yo', yi', yw', ya', y1', y2', yK', yW', yL', yq', nm', nv', no', yA', lf', rt', iK', iN')) : wpY_start post (yma, ypo, yhe, yvm, yin, yfi, yde, yap, yas, yto, yan, yco, yti, yna, yac, yen, yic, o, l, kS, d, pl, ys, yk, yn, yp, yf, yo, yi, yw, ya, y1, y2, yK, yW, yL, yq, nm, nv, no, yA, lf, rt, iK, iN) (nI g) := by
  have eg' : (nI g).toNatClampNeg = g := nI_clamp (by omega)
  have hin : vp_in (nI g) 601 := vp_in_nI (by omega) (by omega)
  refine ys_pre hg eo hq ek (by omega) (fun w => absurd w (by omega)) (fun e => absurd e (by omega)) (fun _ w => ?_)
  unfold wY_start_84
  refine br_f (by decide) (br_f (by decide) ?_)
  unfold wY_start_115
  refine br_t rfl ?_
  unfold wpY_startFold
  dsimp only
  rw [eg']
  exact ⟨hin, br_f n3 ⟨hin, hin, hA _ hp⟩⟩
theorem ys_115 {yma ypo yhe yvm : Int32} {yin : Int64} {yfi yde yap yas yto : Int32} {yan : Int64} {yco yti yna yac yen yic : Int32} {o l kS d : Nat → Int32} {pl ys : Nat → Int64} {yk yn yp yf yo : Nat → Int32} {yi : Nat → Int64} {yw ya y1 y2 : Nat → Int32} {yK : Nat → Int64} {yW : Nat → Int32} {yL : Nat → Int64} {yq nm : Nat → Int32} {nv : Nat → Int64} {no : Nat → Int32} {yA lf rt : Nat → Int64} {iK iN : Nat → Int32} {post : SY → Prop} {g q kk : Nat} (hg : g < 600) (eo : yo g = nI q) (hq : q < 40) (ek : yk q = nI kk) (hk : kk < 60) (h21 : 21 ≤ kk) (n22 : kk = 22 → ¬ yW g = yn q) (h : wY_start_115 post (nI g) (nI kk) yma ypo yhe yvm yin yfi yde yap yas yto yan yco yti yna yac yen yic o l kS d pl ys yk yn yp yf yo yi yw ya y1 y2 yK yW yL yq nm nv no yA lf rt iK iN) : wpY_start post (yma, ypo, yhe, yvm, yin, yfi, yde, yap, yas, yto, yan, yco, yti, yna, yac, yen, yic, o, l, kS, d, pl, ys, yk, yn, yp, yf, yo, yi, yw, ya, y1, y2, yK, yW, yL, yq, nm, nv, no, yA, lf, rt, iK, iN) (nI g) := by
  have eg' : (nI g).toNatClampNeg = g := nI_clamp (by omega)
  have hin : vp_in (nI g) 601 := vp_in_nI (by omega) (by omega)
  refine ys_pre hg eo hq ek hk (fun w => absurd w (by omega)) (fun e => absurd e (by omega)) (fun _ w => ?_)
  unfold wY_start_84
  rw [eg']
  exact br_f (fun z => absurd ((nI_eq (b := 20) (by omega) (by omega)).mp z) (by omega)) (pk_eq kk 22 (fun e => ⟨hin, br_f (n22 e) h⟩) (fun _ => h))
theorem ys_second {yma ypo yhe yvm : Int32} {yin : Int64} {yfi yde yap yas yto : Int32} {yan : Int64} {yco yti yna yac yen yic : Int32} {o l kS d : Nat → Int32} {pl ys : Nat → Int64} {yk yn yp yf yo : Nat → Int32} {yi : Nat → Int64} {yw ya y1 y2 : Nat → Int32} {yK : Nat → Int64} {yW : Nat → Int32} {yL : Nat → Int64} {yq nm : Nat → Int32} {nv : Nat → Int64} {no : Nat → Int32} {yA lf rt : Nat → Int64} {iK iN : Nat → Int32} {post : SY → Prop} {g q kk a f : Nat} (hg : g < 600) (eo : yo g = nI q) (hq : q < 40) (ek : yk q = nI kk) (hk : kk < 51) (h29 : 29 < kk) (e2 : y2 g = nI f) (hf : f < 600) (ea : yas = nI a) (ha : a < 602)
    (hp : post (yma, ypo, yhe, yvm, yin, yfi, yde, yap, (nI (a + 1)), yto, yan, yco, yti, yna, yac, yen, yic, o, l, kS, d, pl, ys, yk, yn, yp, yf, yo, yi, yw, ya, y1, y2, yK, yW, yL, (upd yq a (nI f)), nm, nv, no, yA, lf, rt, iK, iN)) : wpY_start post (yma, ypo, yhe, yvm, yin, yfi, yde, yap, yas, yto, yan, yco, yti, yna, yac, yen, yic, o, l, kS, d, pl, ys, yk, yn, yp, yf, yo, yi, yw, ya, y1, y2, yK, yW, yL, yq, nm, nv, no, yA, lf, rt, iK, iN) (nI g) := by
  have eg' : (nI g).toNatClampNeg = g := nI_clamp (by omega)
  have hin : vp_in (nI g) 601 := vp_in_nI (by omega) (by omega)
  refine ys_115 hg eo hq ek (by omega) (by omega) (fun e => absurd e (by omega)) ?_
  unfold wY_start_115
  rw [eg', e2]
  exact br_f (fun z => absurd ((nI_eq (b := 51) (by omega) (by omega)).mp z) (by omega)) (br_f (nI_ge (a := 29) h29 (by omega)) ⟨hin, br_f (nI_pos (by omega)) ⟨hin, yr_askAgain ea ha hp⟩⟩)
theorem ys_first {yma ypo yhe yvm : Int32} {yin : Int64} {yfi yde yap yas yto : Int32} {yan : Int64} {yco yti yna yac yen yic : Int32} {o l kS d : Nat → Int32} {pl ys : Nat → Int64} {yk yn yp yf yo : Nat → Int32} {yi : Nat → Int64} {yw ya y1 y2 : Nat → Int32} {yK : Nat → Int64} {yW : Nat → Int32} {yL : Nat → Int64} {yq nm : Nat → Int32} {nv : Nat → Int64} {no : Nat → Int32} {yA lf rt : Nat → Int64} {iK iN : Nat → Int32} {yma' ypo' yhe' yvm' : Int32} {yin' : Int64} {yfi' yde' yap' yas' yto' : Int32} {yan' : Int64} {yco' yti' yna' yac' yen' yic' : Int32} {o' l' kS' d' : Nat → Int32} {pl' ys' : Nat → Int64} {yk' yn' yp' yf' yo' : Nat → Int32} {yi' : Nat → Int64} {yw' ya' y1' y2' : Nat → Int32} {yK' : Nat → Int64} {yW' : Nat → Int32} {yL' : Nat → Int64} {yq' nm' : Nat → Int32} {nv' : Nat → Int64} {no' : Nat → Int32} {yA' lf' rt' : Nat → Int64} {iK' iN' : Nat → Int32} {post : SY → Prop} {g q kk : Nat} (hg : g < 600) (eo : yo g = nI q) (hq : q < 40) (ek : yk q = nI kk) (hk : kk < 51) (h21 : 21 ≤ kk) (n22 : kk = 22 → ¬ yW g = yn q) (e2 : 29 < kk → y2 g = -1)
    (hA : ∀ Q : SY → Prop, Q (yma', ypo', yhe', yvm', yin', yfi', yde', yap', yas', yto', yan', yco', yti', yna', yac', yen', yic', o', l', kS', d', pl', ys', yk', yn', yp', yf', yo', yi', yw', ya', y1', y2', yK', yW', yL', yq', nm', nv', no', yA', lf', rt', iK', iN') → wpY_askFirst Q (yma, ypo, yhe, yvm, yin, yfi, yde, yap, yas, yto, yan, yco, yti, yna, yac, yen, yic, o, l, kS, d, pl, ys, yk, yn, yp, yf, yo, yi, yw, ya, y1, y2, yK, yW, yL, yq, nm, nv, no, yA, lf, rt, iK, iN) (nI g)) (hp : post (yma', ypo', yhe', yvm', yin', yfi', yde', yap', yas', yto', yan', yco', yti', yna', yac', yen', yic', o', l', kS', d', pl', ys', yk', yn', yp', yf', yo', yi', yw', ya', y1', y2', yK', yW', yL', yq', nm', nv', no', yA', lf', rt', iK', iN')) : wpY_start post (yma, ypo, yhe, yvm, yin, yfi, yde, yap, yas, yto, yan, yco, yti, yna, yac, yen, yic, o, l, kS, d, pl, ys, yk, yn, yp, yf, yo, yi, yw, ya, y1, y2, yK, yW, yL, yq, nm, nv, no, yA, lf, rt, iK, iN) (nI g) := by
  have eg' : (nI g).toNatClampNeg = g := nI_clamp (by omega)
  have hin : vp_in (nI g) 601 := vp_in_nI (by omega) (by omega)
  have k157 : wY_start_157 post (nI g) yma ypo yhe yvm yin yfi yde yap yas yto yan yco yti yna yac yen yic o l kS d pl ys yk yn yp yf yo yi yw ya y1 y2 yK yW yL yq nm nv no yA lf rt iK iN := by
    unfold wY_start_157
    exact hA _ hp
  refine ys_115 hg eo hq ek (by omega) h21 n22 ?_
  unfold wY_start_115
  rw [eg']
  exact br_f (fun z => absurd ((nI_eq (b := 51) (by omega) (by omega)).mp z) (by omega)) (pk_le kk 29 (fun _ => k157) (fun w => ⟨hin, br_t (by rw [e2 w]; decide) k157⟩))
