/-! ===== what Y asks here, it asks at the start of its run ===== -/
def cr_F (v0 : SY) (mk0 pd0 : Nat) (v : SY) : Prop :=
  match v with
  | (yma, ypo, yhe, yvm, yin, yfi, yde, yap, yas, yto, yan, yco, yti, yna, yac, yen, yic, o, l, kS, d, pl, ys, yk, yn, yp, yf, yo, yi, yw, ya, y1, y2, yK, yW, yL, yq, nm, nv, no, yA, lf, rt, iK, iN) => ∀ post : SY → Prop, (∃ n, wY_work_79 post (nI mk0) (nI pd0) n 1 yma ypo yhe yvm yin yfi yde yap yas yto yan yco yti yna yac yen yic o l kS d pl ys yk yn yp yf yo yi yw ya y1 y2 yK yW yL yq nm nv no yA lf rt iK iN) → wpY_work post v0
def cr_T (v0 : SY) (mk0 pd0 : Nat) (v : SY) : Prop :=
  match v with
  | (yma, ypo, yhe, yvm, yin, yfi, yde, yap, yas, yto, yan, yco, yti, yna, yac, yen, yic, o, l, kS, d, pl, ys, yk, yn, yp, yf, yo, yi, yw, ya, y1, y2, yK, yW, yL, yq, nm, nv, no, yA, lf, rt, iK, iN) => ∀ post : SY → Prop, (∃ n, wY_work_146 post (wY_work_79 post (nI mk0) (nI pd0) n) (nI mk0) (nI pd0) 0 yma ypo yhe yvm yin yfi yde yap yas yto yan yco yti yna yac yen yic o l kS d pl ys yk yn yp yf yo yi yw ya y1 y2 yK yW yL yq nm nv no yA lf rt iK iN) → wpY_work post v0
/-- the run has come to its end -/
def cr_E (v0 : SY) (mk0 pd0 : Nat) (v : SY) : Prop :=
  match v with
  | (yma, ypo, yhe, yvm, yin, yfi, yde, yap, yas, yto, yan, yco, yti, yna, yac, yen, yic, o, l, kS, d, pl, ys, yk, yn, yp, yf, yo, yi, yw, ya, y1, y2, yK, yW, yL, yq, nm, nv, no, yA, lf, rt, iK, iN) => ∀ post : SY → Prop, post ((nI mk0), (nI pd0), yhe, yvm, yin, yfi, yde, yap, yas, yto, yan, yco, yti, yna, yac, yen, yic, o, l, kS, d, pl, ys, yk, yn, yp, yf, yo, yi, yw, ya, y1, y2, yK, yW, yL, yq, nm, nv, no, yA, lf, rt, iK, iN) → wpY_work post v0
theorem cr_as (a : Nat) : nI (a + 1) - 1 = nI a := nI_pred a
section
variable {v0 : SY} {mk0 pd0 : Nat}
theorem cr_FT {yma ypo yhe yvm : Int32} {yin : Int64} {yfi yde yap yas yto : Int32} {yan : Int64} {yco yti yna yac yen yic : Int32} {o l kS d : Nat → Int32} {pl ys : Nat → Int64} {yk yn yp yf yo : Nat → Int32} {yi : Nat → Int64} {yw ya y1 y2 : Nat → Int32} {yK : Nat → Int64} {yW : Nat → Int32} {yL : Nat → Int64} {yq nm : Nat → Int32} {nv : Nat → Int64} {no : Nat → Int32} {yA lf rt : Nat → Int64} {iK iN : Nat → Int32} {yma' ypo' yhe' yvm' : Int32} {yin' : Int64} {yfi' yde' yap' yas' yto' : Int32} {yan' : Int64} {yco' yti' yna' yac' yen' yic' : Int32} {o' l' kS' d' : Nat → Int32} {pl' ys' : Nat → Int64} {yk' yn' yp' yf' yo' : Nat → Int32} {yi' : Nat → Int64} {yw' ya' y1' y2' : Nat → Int32} {yK' : Nat → Int64} {yW' : Nat → Int32} {yL' : Nat → Int64} {yq' nm' : Nat → Int32} {nv' : Nat → Int64} {no' : Nat → Int32} {yA' lf' rt' : Nat → Int64} {iK' iN' : Nat → Int32} {a g : Nat} (h : cr_F v0 mk0 pd0 (yma, ypo, yhe, yvm, yin, yfi, yde, yap, yas, yto, yan, yco, yti, yna, yac, yen, yic, o, l, kS, d, pl, ys, yk, yn, yp, yf, yo, yi, yw, ya, y1, y2, yK, yW, yL, yq, nm, nv, no, yA, lf, rt, iK, iN)) (en : yen = -1000000004) (ea : yas = nI (a + 1)) (ha : a < 600) (eq : yq a = nI g) (ht : yti' = 0) (ea' : yas' = nI a)
    (hs : ∀ Q : SY → Prop, Q (yma', ypo', yhe', yvm', yin', yfi', yde', yap', yas', yto', yan', yco', yti', yna', yac', yen', yic', o', l', kS', d', pl', ys', yk', yn', yp', yf', yo', yi', yw', ya', y1', y2', yK', yW', yL', yq', nm', nv', no', yA', lf', rt', iK', iN') → wpY_start Q (yma, ypo, yhe, yvm, yin, yfi, yde, yap, yas, yto, yan, yco, yti, yna, yac, yen, yic, o, l, kS, d, pl, ys, yk, yn, yp, yf, yo, yi, yw, ya, y1, y2, yK, yW, yL, yq, nm, nv, no, yA, lf, rt, iK, iN) (nI g)) : cr_T v0 mk0 pd0 (yma', ypo', yhe', yvm', yin', yfi', yde', yap', yas', yto', yan', yco', yti', yna', yac', yen', yic', o', l', kS', d', pl', ys', yk', yn', yp', yf', yo', yi', yw', ya', y1', y2', yK', yW', yL', yq', nm', nv', no', yA', lf', rt', iK', iN') := by
  intro post hp
  obtain ⟨n, hp⟩ := hp
  refine h post ⟨n + 1, ?_⟩
  unfold wY_work_79
  rw [show yas - 1 = nI a by rw [ea, cr_as], nI_clamp (show a < 2 ^ 31 by omega), eq]
  refine br_t en (br_f (by decide) ⟨vp_in_nI (by omega) (by omega), hs _ ?_⟩)
  dsimp only
  unfold wY_work_132
  exact br_t (by rw [ea, ea']; exact nI_le (by omega) (by omega)) hp
theorem cr_FF {yma ypo yhe yvm : Int32} {yin : Int64} {yfi yde yap yas yto : Int32} {yan : Int64} {yco yti yna yac yen yic : Int32} {o l kS d : Nat → Int32} {pl ys : Nat → Int64} {yk yn yp yf yo : Nat → Int32} {yi : Nat → Int64} {yw ya y1 y2 : Nat → Int32} {yK : Nat → Int64} {yW : Nat → Int32} {yL : Nat → Int64} {yq nm : Nat → Int32} {nv : Nat → Int64} {no : Nat → Int32} {yA lf rt : Nat → Int64} {iK iN : Nat → Int32} {yma' ypo' yhe' yvm' : Int32} {yin' : Int64} {yfi' yde' yap' yas' yto' : Int32} {yan' : Int64} {yco' yti' yna' yac' yen' yic' : Int32} {o' l' kS' d' : Nat → Int32} {pl' ys' : Nat → Int64} {yk' yn' yp' yf' yo' : Nat → Int32} {yi' : Nat → Int64} {yw' ya' y1' y2' : Nat → Int32} {yK' : Nat → Int64} {yW' : Nat → Int32} {yL' : Nat → Int64} {yq' nm' : Nat → Int32} {nv' : Nat → Int64} {no' : Nat → Int32} {yA' lf' rt' : Nat → Int64} {iK' iN' : Nat → Int32} {a g : Nat} (h : cr_F v0 mk0 pd0 (yma, ypo, yhe, yvm, yin, yfi, yde, yap, yas, yto, yan, yco, yti, yna, yac, yen, yic, o, l, kS, d, pl, ys, yk, yn, yp, yf, yo, yi, yw, ya, y1, y2, yK, yW, yL, yq, nm, nv, no, yA, lf, rt, iK, iN)) (en : yen = -1000000004) (ea : yas = nI (a + 1)) (ha : a < 600) (eq : yq a = nI g) (ht : yti' = 0) (ea' : yas' = nI (a + 2))
    (hs : ∀ Q : SY → Prop, Q (yma', ypo', yhe', yvm', yin', yfi', yde', yap', yas', yto', yan', yco', yti', yna', yac', yen', yic', o', l', kS', d', pl', ys', yk', yn', yp', yf', yo', yi', yw', ya', y1', y2', yK', yW', yL', yq', nm', nv', no', yA', lf', rt', iK', iN') → wpY_start Q (yma, ypo, yhe, yvm, yin, yfi, yde, yap, yas, yto, yan, yco, yti, yna, yac, yen, yic, o, l, kS, d, pl, ys, yk, yn, yp, yf, yo, yi, yw, ya, y1, y2, yK, yW, yL, yq, nm, nv, no, yA, lf, rt, iK, iN) (nI g)) : cr_F v0 mk0 pd0 (yma', ypo', yhe', yvm', yin', yfi', yde', yap', yas', yto', yan', yco', yti', yna', yac', yen', yic', o', l', kS', d', pl', ys', yk', yn', yp', yf', yo', yi', yw', ya', y1', y2', yK', yW', yL', yq', nm', nv', no', yA', lf', rt', iK', iN') := by
  intro post hp
  obtain ⟨n, hp⟩ := hp
  refine h post ⟨n + 1, ?_⟩
  unfold wY_work_79
  rw [show yas - 1 = nI a by rw [ea, cr_as], nI_clamp (show a < 2 ^ 31 by omega), eq]
  refine br_t en (br_f (by decide) ⟨vp_in_nI (by omega) (by omega), hs _ ?_⟩)
  dsimp only
  unfold wY_work_132
  refine br_f (by rw [ea, ea']; exact nI_ge (by omega) (by omega)) ?_
  unfold wY_work_146
  exact br_t ht (br_f (by rw [ea']; exact nI_ne0 (by omega) (by omega)) hp)
/-- too much was counted -/
theorem cr_FE {yma ypo yhe yvm : Int32} {yin : Int64} {yfi yde yap yas yto : Int32} {yan : Int64} {yco yti yna yac yen yic : Int32} {o l kS d : Nat → Int32} {pl ys : Nat → Int64} {yk yn yp yf yo : Nat → Int32} {yi : Nat → Int64} {yw ya y1 y2 : Nat → Int32} {yK : Nat → Int64} {yW : Nat → Int32} {yL : Nat → Int64} {yq nm : Nat → Int32} {nv : Nat → Int64} {no : Nat → Int32} {yA lf rt : Nat → Int64} {iK iN : Nat → Int32} {yma' ypo' yhe' yvm' : Int32} {yin' : Int64} {yfi' yde' yap' yas' yto' : Int32} {yan' : Int64} {yco' yti' yna' yac' yen' yic' : Int32} {o' l' kS' d' : Nat → Int32} {pl' ys' : Nat → Int64} {yk' yn' yp' yf' yo' : Nat → Int32} {yi' : Nat → Int64} {yw' ya' y1' y2' : Nat → Int32} {yK' : Nat → Int64} {yW' : Nat → Int32} {yL' : Nat → Int64} {yq' nm' : Nat → Int32} {nv' : Nat → Int64} {no' : Nat → Int32} {yA' lf' rt' : Nat → Int64} {iK' iN' : Nat → Int32} {a g : Nat} (h : cr_F v0 mk0 pd0 (yma, ypo, yhe, yvm, yin, yfi, yde, yap, yas, yto, yan, yco, yti, yna, yac, yen, yic, o, l, kS, d, pl, ys, yk, yn, yp, yf, yo, yi, yw, ya, y1, y2, yK, yW, yL, yq, nm, nv, no, yA, lf, rt, iK, iN)) (en : yen = -1000000004) (ea : yas = nI (a + 1)) (ha : a < 600) (eq : yq a = nI g) (ht : yti' = 1)
    (hs : ∀ Q : SY → Prop, Q (yma', ypo', yhe', yvm', yin', yfi', yde', yap', yas', yto', yan', yco', yti', yna', yac', yen', yic', o', l', kS', d', pl', ys', yk', yn', yp', yf', yo', yi', yw', ya', y1', y2', yK', yW', yL', yq', nm', nv', no', yA', lf', rt', iK', iN') → wpY_start Q (yma, ypo, yhe, yvm, yin, yfi, yde, yap, yas, yto, yan, yco, yti, yna, yac, yen, yic, o, l, kS, d, pl, ys, yk, yn, yp, yf, yo, yi, yw, ya, y1, y2, yK, yW, yL, yq, nm, nv, no, yA, lf, rt, iK, iN) (nI g)) : cr_E v0 mk0 pd0 (yma', ypo', yhe', yvm', yin', yfi', yde', yap', yas', yto', yan', yco', yti', yna', yac', 3, yic', o', l', kS', d', pl', ys', yk', yn', yp', yf', yo', yi', yw', ya', y1', y2', yK', yW', yL', yq', nm', nv', no', yA', lf', rt', iK', iN') := by
  intro post hp
  refine h post ⟨2, ?_⟩
  have key : ∀ z : Int32, wY_work_146 post (wY_work_79 post (nI mk0) (nI pd0) 1) (nI mk0) (nI pd0) z yma' ypo' yhe' yvm' yin' yfi' yde' yap' yas' yto' yan' yco' yti' yna' yac' yen' yic' o' l' kS' d' pl' ys' yk' yn' yp' yf' yo' yi' yw' ya' y1' y2' yK' yW' yL' yq' nm' nv' no' yA' lf' rt' iK' iN' := by
    intro z
    unfold wY_work_146
    refine br_f (by rw [ht]; decide) ?_
    unfold wY_work_79
    exact br_f (by decide) hp
  unfold wY_work_79
  rw [show yas - 1 = nI a by rw [ea, cr_as], nI_clamp (show a < 2 ^ 31 by omega), eq]
  refine br_t en (br_f (by decide) ⟨vp_in_nI (by omega) (by omega), hs _ ?_⟩)
  dsimp only
  unfold wY_work_132
  exact br_c (fun _ => key 0) (fun _ => key 1)
theorem cr_TT {yma ypo yhe yvm : Int32} {yin : Int64} {yfi yde yap yas yto : Int32} {yan : Int64} {yco yti yna yac yen yic : Int32} {o l kS d : Nat → Int32} {pl ys : Nat → Int64} {yk yn yp yf yo : Nat → Int32} {yi : Nat → Int64} {yw ya y1 y2 : Nat → Int32} {yK : Nat → Int64} {yW : Nat → Int32} {yL : Nat → Int64} {yq nm : Nat → Int32} {nv : Nat → Int64} {no : Nat → Int32} {yA lf rt : Nat → Int64} {iK iN : Nat → Int32} {yma' ypo' yhe' yvm' : Int32} {yin' : Int64} {yfi' yde' yap' yas' yto' : Int32} {yan' : Int64} {yco' yti' yna' yac' yen' yic' : Int32} {o' l' kS' d' : Nat → Int32} {pl' ys' : Nat → Int64} {yk' yn' yp' yf' yo' : Nat → Int32} {yi' : Nat → Int64} {yw' ya' y1' y2' : Nat → Int32} {yK' : Nat → Int64} {yW' : Nat → Int32} {yL' : Nat → Int64} {yq' nm' : Nat → Int32} {nv' : Nat → Int64} {no' : Nat → Int32} {yA' lf' rt' : Nat → Int64} {iK' iN' : Nat → Int32} {a g : Nat} (h : cr_T v0 mk0 pd0 (yma, ypo, yhe, yvm, yin, yfi, yde, yap, yas, yto, yan, yco, yti, yna, yac, yen, yic, o, l, kS, d, pl, ys, yk, yn, yp, yf, yo, yi, yw, ya, y1, y2, yK, yW, yL, yq, nm, nv, no, yA, lf, rt, iK, iN)) (en : yen = -1000000004) (ht0 : yti = 0) (ea : yas = nI (a + 1)) (ha : a < 600) (eq : yq a = nI g) (ht : yti' = 0) (ea' : yas' = nI a)
    (hs : ∀ Q : SY → Prop, Q (yma', ypo', yhe', yvm', yin', yfi', yde', yap', yas', yto', yan', yco', yti', yna', yac', yen', yic', o', l', kS', d', pl', ys', yk', yn', yp', yf', yo', yi', yw', ya', y1', y2', yK', yW', yL', yq', nm', nv', no', yA', lf', rt', iK', iN') → wpY_goOn Q (yma, ypo, yhe, yvm, yin, yfi, yde, yap, yas, yto, yan, yco, yti, yna, yac, yen, yic, o, l, kS, d, pl, ys, yk, yn, yp, yf, yo, yi, yw, ya, y1, y2, yK, yW, yL, yq, nm, nv, no, yA, lf, rt, iK, iN) (nI g)) : cr_T v0 mk0 pd0 (yma', ypo', yhe', yvm', yin', yfi', yde', yap', yas', yto', yan', yco', yti', yna', yac', yen', yic', o', l', kS', d', pl', ys', yk', yn', yp', yf', yo', yi', yw', ya', y1', y2', yK', yW', yL', yq', nm', nv', no', yA', lf', rt', iK', iN') := by
  intro post hp
  obtain ⟨n, hp⟩ := hp
  refine h post ⟨n + 1, ?_⟩
  unfold wY_work_146
  refine br_t ht0 (br_f (by rw [ea]; exact nI_ne0 (by omega) (by omega)) ?_)
  unfold wY_work_79
  rw [show yas - 1 = nI a by rw [ea, cr_as], nI_clamp (show a < 2 ^ 31 by omega), eq]
  refine br_t en (br_t rfl ⟨vp_in_nI (by omega) (by omega), hs _ ?_⟩)
  dsimp only
  unfold wY_work_132
  exact br_t (by rw [ea, ea']; exact nI_le (by omega) (by omega)) hp
theorem cr_TF {yma ypo yhe yvm : Int32} {yin : Int64} {yfi yde yap yas yto : Int32} {yan : Int64} {yco yti yna yac yen yic : Int32} {o l kS d : Nat → Int32} {pl ys : Nat → Int64} {yk yn yp yf yo : Nat → Int32} {yi : Nat → Int64} {yw ya y1 y2 : Nat → Int32} {yK : Nat → Int64} {yW : Nat → Int32} {yL : Nat → Int64} {yq nm : Nat → Int32} {nv : Nat → Int64} {no : Nat → Int32} {yA lf rt : Nat → Int64} {iK iN : Nat → Int32} {yma' ypo' yhe' yvm' : Int32} {yin' : Int64} {yfi' yde' yap' yas' yto' : Int32} {yan' : Int64} {yco' yti' yna' yac' yen' yic' : Int32} {o' l' kS' d' : Nat → Int32} {pl' ys' : Nat → Int64} {yk' yn' yp' yf' yo' : Nat → Int32} {yi' : Nat → Int64} {yw' ya' y1' y2' : Nat → Int32} {yK' : Nat → Int64} {yW' : Nat → Int32} {yL' : Nat → Int64} {yq' nm' : Nat → Int32} {nv' : Nat → Int64} {no' : Nat → Int32} {yA' lf' rt' : Nat → Int64} {iK' iN' : Nat → Int32} {a g : Nat} (h : cr_T v0 mk0 pd0 (yma, ypo, yhe, yvm, yin, yfi, yde, yap, yas, yto, yan, yco, yti, yna, yac, yen, yic, o, l, kS, d, pl, ys, yk, yn, yp, yf, yo, yi, yw, ya, y1, y2, yK, yW, yL, yq, nm, nv, no, yA, lf, rt, iK, iN)) (en : yen = -1000000004) (ht0 : yti = 0) (ea : yas = nI (a + 1)) (ha : a < 600) (eq : yq a = nI g) (ht : yti' = 0) (ea' : yas' = nI (a + 2))
    (hs : ∀ Q : SY → Prop, Q (yma', ypo', yhe', yvm', yin', yfi', yde', yap', yas', yto', yan', yco', yti', yna', yac', yen', yic', o', l', kS', d', pl', ys', yk', yn', yp', yf', yo', yi', yw', ya', y1', y2', yK', yW', yL', yq', nm', nv', no', yA', lf', rt', iK', iN') → wpY_goOn Q (yma, ypo, yhe, yvm, yin, yfi, yde, yap, yas, yto, yan, yco, yti, yna, yac, yen, yic, o, l, kS, d, pl, ys, yk, yn, yp, yf, yo, yi, yw, ya, y1, y2, yK, yW, yL, yq, nm, nv, no, yA, lf, rt, iK, iN) (nI g)) : cr_F v0 mk0 pd0 (yma', ypo', yhe', yvm', yin', yfi', yde', yap', yas', yto', yan', yco', yti', yna', yac', yen', yic', o', l', kS', d', pl', ys', yk', yn', yp', yf', yo', yi', yw', ya', y1', y2', yK', yW', yL', yq', nm', nv', no', yA', lf', rt', iK', iN') := by
  intro post hp
  obtain ⟨n, hp⟩ := hp
  refine h post ⟨n + 1, ?_⟩
  unfold wY_work_146
  refine br_t ht0 (br_f (by rw [ea]; exact nI_ne0 (by omega) (by omega)) ?_)
  unfold wY_work_79
  rw [show yas - 1 = nI a by rw [ea, cr_as], nI_clamp (show a < 2 ^ 31 by omega), eq]
  refine br_t en (br_t rfl ⟨vp_in_nI (by omega) (by omega), hs _ ?_⟩)
  dsimp only
  unfold wY_work_132
  refine br_f (by rw [ea, ea']; exact nI_ge (by omega) (by omega)) ?_
  unfold wY_work_146
  exact br_t ht (br_f (by rw [ea']; exact nI_ne0 (by omega) (by omega)) hp)
theorem cr_TE {yma ypo yhe yvm : Int32} {yin : Int64} {yfi yde yap yas yto : Int32} {yan : Int64} {yco yti yna yac yen yic : Int32} {o l kS d : Nat → Int32} {pl ys : Nat → Int64} {yk yn yp yf yo : Nat → Int32} {yi : Nat → Int64} {yw ya y1 y2 : Nat → Int32} {yK : Nat → Int64} {yW : Nat → Int32} {yL : Nat → Int64} {yq nm : Nat → Int32} {nv : Nat → Int64} {no : Nat → Int32} {yA lf rt : Nat → Int64} {iK iN : Nat → Int32} {yma' ypo' yhe' yvm' : Int32} {yin' : Int64} {yfi' yde' yap' yas' yto' : Int32} {yan' : Int64} {yco' yti' yna' yac' yen' yic' : Int32} {o' l' kS' d' : Nat → Int32} {pl' ys' : Nat → Int64} {yk' yn' yp' yf' yo' : Nat → Int32} {yi' : Nat → Int64} {yw' ya' y1' y2' : Nat → Int32} {yK' : Nat → Int64} {yW' : Nat → Int32} {yL' : Nat → Int64} {yq' nm' : Nat → Int32} {nv' : Nat → Int64} {no' : Nat → Int32} {yA' lf' rt' : Nat → Int64} {iK' iN' : Nat → Int32} {a g : Nat} (h : cr_T v0 mk0 pd0 (yma, ypo, yhe, yvm, yin, yfi, yde, yap, yas, yto, yan, yco, yti, yna, yac, yen, yic, o, l, kS, d, pl, ys, yk, yn, yp, yf, yo, yi, yw, ya, y1, y2, yK, yW, yL, yq, nm, nv, no, yA, lf, rt, iK, iN)) (en : yen = -1000000004) (ht0 : yti = 0) (ea : yas = nI (a + 1)) (ha : a < 600) (eq : yq a = nI g) (ht : yti' = 1)
    (hs : ∀ Q : SY → Prop, Q (yma', ypo', yhe', yvm', yin', yfi', yde', yap', yas', yto', yan', yco', yti', yna', yac', yen', yic', o', l', kS', d', pl', ys', yk', yn', yp', yf', yo', yi', yw', ya', y1', y2', yK', yW', yL', yq', nm', nv', no', yA', lf', rt', iK', iN') → wpY_goOn Q (yma, ypo, yhe, yvm, yin, yfi, yde, yap, yas, yto, yan, yco, yti, yna, yac, yen, yic, o, l, kS, d, pl, ys, yk, yn, yp, yf, yo, yi, yw, ya, y1, y2, yK, yW, yL, yq, nm, nv, no, yA, lf, rt, iK, iN) (nI g)) : cr_E v0 mk0 pd0 (yma', ypo', yhe', yvm', yin', yfi', yde', yap', yas', yto', yan', yco', yti', yna', yac', 3, yic', o', l', kS', d', pl', ys', yk', yn', yp', yf', yo', yi', yw', ya', y1', y2', yK', yW', yL', yq', nm', nv', no', yA', lf', rt', iK', iN') := by
  intro post hp
  refine h post ⟨2, ?_⟩
  have key : ∀ z : Int32, wY_work_146 post (wY_work_79 post (nI mk0) (nI pd0) 1) (nI mk0) (nI pd0) z yma' ypo' yhe' yvm' yin' yfi' yde' yap' yas' yto' yan' yco' yti' yna' yac' yen' yic' o' l' kS' d' pl' ys' yk' yn' yp' yf' yo' yi' yw' ya' y1' y2' yK' yW' yL' yq' nm' nv' no' yA' lf' rt' iK' iN' := by
    intro z
    unfold wY_work_146
    refine br_f (by rw [ht]; decide) ?_
    unfold wY_work_79
    exact br_f (by decide) hp
  unfold wY_work_146
  refine br_t ht0 (br_f (by rw [ea]; exact nI_ne0 (by omega) (by omega)) ?_)
  unfold wY_work_79
  rw [show yas - 1 = nI a by rw [ea, cr_as], nI_clamp (show a < 2 ^ 31 by omega), eq]
  refine br_t en (br_t rfl ⟨vp_in_nI (by omega) (by omega), hs _ ?_⟩)
  dsimp only
  unfold wY_work_132
  exact br_c (fun _ => key 0) (fun _ => key 1)
/-- the whole filter has answered -/
theorem cr_R0 {yma ypo yhe yvm : Int32} {yin : Int64} {yfi yde yap yas yto : Int32} {yan : Int64} {yco yti yna yac yen yic : Int32} {o l kS d : Nat → Int32} {pl ys : Nat → Int64} {yk yn yp yf yo : Nat → Int32} {yi : Nat → Int64} {yw ya y1 y2 : Nat → Int32} {yK : Nat → Int64} {yW : Nat → Int32} {yL : Nat → Int64} {yq nm : Nat → Int32} {nv : Nat → Int64} {no : Nat → Int32} {yA lf rt : Nat → Int64} {iK iN : Nat → Int32} {a : Nat} (h : cr_T v0 mk0 pd0 (yma, ypo, yhe, yvm, yin, yfi, yde, yap, yas, yto, yan, yco, yti, yna, yac, yen, yic, o, l, kS, d, pl, ys, yk, yn, yp, yf, yo, yi, yw, ya, y1, y2, yK, yW, yL, yq, nm, nv, no, yA, lf, rt, iK, iN)) (en : yen = -1000000004) (ht0 : yti = 0) (ea : yas = nI 0) (eo : yto = 0) (ec : yac = nI a) (ha : a + 1 < 20) : cr_F v0 mk0 pd0 (yma, ypo, yhe, yvm, yin, yfi, yde, yap, (nI 1), yto, yan, yco, yti, yna, (nI (a + 1)), yen, yic, o, l, kS, d, pl, ys, yk, yn, yp, yf, yo, yi, yw, ya, y1, y2, yK, yW, yL, (upd yq 0 0), nm, nv, no, (vp_updL yA a yan), lf, rt, iK, iN) := by
  intro post hp
  obtain ⟨n, hp⟩ := hp
  refine h post ⟨n, ?_⟩
  unfold wY_work_146
  refine br_t ht0 (br_t ea ?_)
  unfold wpY_takeAnswer
  dsimp only
  rw [ec, nI_clamp (show a < 2 ^ 31 by omega)]
  refine br_t eo ⟨vp_in_nI (by omega) (by omega), nm_e (nm_r (nI_1 a) (br_f (fun z => absurd ((nI_eq (b := 20) (by omega) (by omega)).mp z) (by omega)) ?_))⟩
  unfold wY_takeAnswer_67
  exact yr_askAgain (a := 0) ea (by omega) hp
theorem cr_R20 {yma ypo yhe yvm : Int32} {yin : Int64} {yfi yde yap yas yto : Int32} {yan : Int64} {yco yti yna yac yen yic : Int32} {o l kS d : Nat → Int32} {pl ys : Nat → Int64} {yk yn yp yf yo : Nat → Int32} {yi : Nat → Int64} {yw ya y1 y2 : Nat → Int32} {yK : Nat → Int64} {yW : Nat → Int32} {yL : Nat → Int64} {yq nm : Nat → Int32} {nv : Nat → Int64} {no : Nat → Int32} {yA lf rt : Nat → Int64} {iK iN : Nat → Int32} (h : cr_T v0 mk0 pd0 (yma, ypo, yhe, yvm, yin, yfi, yde, yap, yas, yto, yan, yco, yti, yna, yac, yen, yic, o, l, kS, d, pl, ys, yk, yn, yp, yf, yo, yi, yw, ya, y1, y2, yK, yW, yL, yq, nm, nv, no, yA, lf, rt, iK, iN)) (en : yen = -1000000004) (ht0 : yti = 0) (ea : yas = nI 0) (eo : yto = 0) (ec : yac = nI 19) : ∀ w1 : Nat → Int32, (w1 = upd yq 0 0) → cr_E v0 mk0 pd0 (yma, ypo, yhe, yvm, yin, yfi, yde, yap, (nI 1), yto, yan, yco, yti, yna, (nI 20), 1, yic, o, l, kS, d, pl, ys, yk, yn, yp, yf, yo, yi, yw, ya, y1, y2, yK, yW, yL, w1, nm, nv, no, (vp_updL yA 19 yan), lf, rt, iK, iN) := by
  intro w1 e1 post hp
  subst e1
  refine h post ⟨1, ?_⟩
  unfold wY_work_146
  refine br_t ht0 (br_t ea ?_)
  unfold wpY_takeAnswer
  dsimp only
  rw [ec, nI_clamp (show 19 < 2 ^ 31 by omega)]
  refine br_t eo ⟨vp_in_nI (by omega) (by omega), nm_e (nm_r (nI_1 19) (br_t rfl ?_))⟩
  unfold wY_takeAnswer_67
  refine yr_askAgain (a := 0) ea (by omega) ?_
  dsimp only
  unfold wY_work_79
  exact br_f (by decide) hp
theorem cr_R1 {yma ypo yhe yvm : Int32} {yin : Int64} {yfi yde yap yas yto : Int32} {yan : Int64} {yco yti yna yac yen yic : Int32} {o l kS d : Nat → Int32} {pl ys : Nat → Int64} {yk yn yp yf yo : Nat → Int32} {yi : Nat → Int64} {yw ya y1 y2 : Nat → Int32} {yK : Nat → Int64} {yW : Nat → Int32} {yL : Nat → Int64} {yq nm : Nat → Int32} {nv : Nat → Int64} {no : Nat → Int32} {yA lf rt : Nat → Int64} {iK iN : Nat → Int32} (h : cr_T v0 mk0 pd0 (yma, ypo, yhe, yvm, yin, yfi, yde, yap, yas, yto, yan, yco, yti, yna, yac, yen, yic, o, l, kS, d, pl, ys, yk, yn, yp, yf, yo, yi, yw, ya, y1, y2, yK, yW, yL, yq, nm, nv, no, yA, lf, rt, iK, iN)) (ht0 : yti = 0) (ea : yas = nI 0) (eo : yto = 1 ∨ yto = 2) {e : Int32} (he : (yto = 1 → e = 0) ∧ (yto = 2 → e = 2)) : cr_E v0 mk0 pd0 (yma, ypo, yhe, yvm, yin, yfi, yde, yap, yas, yto, yan, yco, yti, yna, yac, e, yic, o, l, kS, d, pl, ys, yk, yn, yp, yf, yo, yi, yw, ya, y1, y2, yK, yW, yL, yq, nm, nv, no, yA, lf, rt, iK, iN) := by
  intro post hp
  refine h post ⟨1, ?_⟩
  unfold wY_work_146
  refine br_t ht0 (br_t ea ?_)
  unfold wpY_takeAnswer
  dsimp only
  rcases eo with z | z
  · rw [he.1 z] at hp
    refine br_f (by rw [z]; decide) (br_t z ?_)
    unfold wY_work_79
    exact br_f (by decide) hp
  · rw [he.2 z] at hp
    refine br_f (by rw [z]; decide) (br_f (by rw [z]; decide) ?_)
    unfold wY_work_79
    exact br_f (by decide) hp
end
