/-! ===== Y goes on: the second filter, fold ===== -/
theorem yh_1t {yma ypo yhe yvm : Int32} {yin : Int64} {yfi yde yap yas yto : Int32} {yan : Int64} {yco yti yna yac yen yic : Int32} {o l kS d : Nat → Int32} {pl ys : Nat → Int64} {yk yn yp yf yo : Nat → Int32} {yi : Nat → Int64} {yw ya y1 y2 : Nat → Int32} {yK : Nat → Int64} {yW : Nat → Int32} {yL : Nat → Int64} {yq nm : Nat → Int32} {nv : Nat → Int64} {no : Nat → Int32} {yA lf rt : Nat → Int64} {iK iN : Nat → Int32} {post : SY → Prop} {g q kk f : Nat} (hg : g < 600) (eo : yo g = nI q) (hq : q < 40) (ek : yk q = nI kk) (h30 : 30 ≤ kk) (h50 : kk ≤ 50) (e2 : y2 g = nI f) (hf : f < 600) {a : Nat} (ea : yas = nI (a + 1)) (et : yto = 1) (hk : kk = 31 ∨ kk = 41) (hp : post (yma, ypo, yhe, yvm, yin, yfi, yde, yap, (nI a), 1, 0, yco, yti, yna, yac, yen, yic, o, l, kS, d, pl, ys, yk, yn, yp, yf, yo, yi, yw, ya, y1, y2, yK, yW, yL, yq, nm, nv, no, yA, lf, rt, iK, iN)) : wpY_goOn post (yma, ypo, yhe, yvm, yin, yfi, yde, yap, yas, yto, yan, yco, yti, yna, yac, yen, yic, o, l, kS, d, pl, ys, yk, yn, yp, yf, yo, yi, yw, ya, y1, y2, yK, yW, yL, yq, nm, nv, no, yA, lf, rt, iK, iN) (nI g) := by
  have eg' : (nI g).toNatClampNeg = g := nI_clamp (by omega)
  have hin : vp_in (nI g) 601 := vp_in_nI (by omega) (by omega)
  have hiq : vp_in (nI q) 40 := vp_in_nI hq (by omega)
  refine yg_pre hg eo hq ek (by omega) (fun w => absurd w (by omega)) (fun e => absurd e (by omega)) (fun _ _ w => absurd w (by rw [e2]; exact nI_pos (by omega))) (fun _ _ _ => ?_)
  unfold wpY_goOnSecond
  dsimp only
  rw [eg']
  have k20 : wY_goOnSecond_20 (fun u => match u with | (yma', ypo', yhe', yvm', yin', yfi', yde', yap', yas', yto', yan', yco', yti', yna', yac', yen', yic', o', l', kS', d', pl', ys', yk', yn', yp', yf', yo', yi', yw', ya', y1', y2', yK', yW', yL', yq', nm', nv', no', yA', lf', rt', iK', iN') => post (yma', ypo', yhe', yvm', yin', yfi', yde', yap', yas', yto', yan', yco', yti', yna', yac', yen', yic', o', l', kS', d', pl', ys', yk', yn', yp', yf', yo', yi', yw', ya', y1', y2', yK', yW', yL', yq', nm', nv', no', yA', lf', rt', iK', iN')) yma ypo yhe yvm yin yfi yde yap yas yto yan yco yti yna yac yen yic o l kS d pl ys yk yn yp yf yo yi yw ya y1 y2 yK yW yL yq nm nv no yA lf rt iK iN := by
    unfold wY_goOnSecond_20
    exact yr_tell ea hp
  exact br_t et (pk_eq kk 31 (fun _ => k20) (fun n => br_t (by rw [show kk = 41 by omega]; rfl) k20))
theorem yh_1a {yma ypo yhe yvm : Int32} {yin : Int64} {yfi yde yap yas yto : Int32} {yan : Int64} {yco yti yna yac yen yic : Int32} {o l kS d : Nat → Int32} {pl ys : Nat → Int64} {yk yn yp yf yo : Nat → Int32} {yi : Nat → Int64} {yw ya y1 y2 : Nat → Int32} {yK : Nat → Int64} {yW : Nat → Int32} {yL : Nat → Int64} {yq nm : Nat → Int32} {nv : Nat → Int64} {no : Nat → Int32} {yA lf rt : Nat → Int64} {iK iN : Nat → Int32} {post : SY → Prop} {g q kk f : Nat} (hg : g < 600) (eo : yo g = nI q) (hq : q < 40) (ek : yk q = nI kk) (h30 : 30 ≤ kk) (h50 : kk ≤ 50) (e2 : y2 g = nI f) (hf : f < 600) {a : Nat} (ea : yas = nI (a + 1)) {f1 : Nat} (ha : a < 600) (et : yto = 1) (n31 : kk ≠ 31) (n41 : kk ≠ 41) (e1 : y1 g = nI f1) (hp : post (yma, ypo, yhe, yvm, yin, yfi, yde, yap, (nI (a + 2)), yto, yan, yco, yti, yna, yac, yen, yic, o, l, kS, d, pl, ys, yk, yn, yp, yf, yo, yi, yw, ya, y1, (upd y2 g (-1)), yK, yW, yL, (upd yq (a + 1) (nI f1)), nm, nv, no, yA, lf, rt, iK, iN)) : wpY_goOn post (yma, ypo, yhe, yvm, yin, yfi, yde, yap, yas, yto, yan, yco, yti, yna, yac, yen, yic, o, l, kS, d, pl, ys, yk, yn, yp, yf, yo, yi, yw, ya, y1, y2, yK, yW, yL, yq, nm, nv, no, yA, lf, rt, iK, iN) (nI g) := by
  have eg' : (nI g).toNatClampNeg = g := nI_clamp (by omega)
  have hin : vp_in (nI g) 601 := vp_in_nI (by omega) (by omega)
  have hiq : vp_in (nI q) 40 := vp_in_nI hq (by omega)
  refine yg_pre hg eo hq ek (by omega) (fun w => absurd w (by omega)) (fun e => absurd e (by omega)) (fun _ _ w => absurd w (by rw [e2]; exact nI_pos (by omega))) (fun _ _ _ => ?_)
  unfold wpY_goOnSecond
  dsimp only
  rw [eg']
  rw [e1]
  exact br_t et (br_f (fun z => absurd ((nI_eq (b := 31) (by omega) (by omega)).mp z) (by omega)) (br_f (fun z => absurd ((nI_eq (b := 41) (by omega) (by omega)).mp z) (by omega)) ⟨hin, nm_e ⟨hin, yr_askAgain ea (by omega) hp⟩⟩))
theorem yh_2 {yma ypo yhe yvm : Int32} {yin : Int64} {yfi yde yap yas yto : Int32} {yan : Int64} {yco yti yna yac yen yic : Int32} {o l kS d : Nat → Int32} {pl ys : Nat → Int64} {yk yn yp yf yo : Nat → Int32} {yi : Nat → Int64} {yw ya y1 y2 : Nat → Int32} {yK : Nat → Int64} {yW : Nat → Int32} {yL : Nat → Int64} {yq nm : Nat → Int32} {nv : Nat → Int64} {no : Nat → Int32} {yA lf rt : Nat → Int64} {iK iN : Nat → Int32} {post : SY → Prop} {g q kk f : Nat} (hg : g < 600) (eo : yo g = nI q) (hq : q < 40) (ek : yk q = nI kk) (h30 : 30 ≤ kk) (h50 : kk ≤ 50) (e2 : y2 g = nI f) (hf : f < 600) {a : Nat} (ea : yas = nI (a + 1)) (et : yto = 2) (hp : post (yma, ypo, yhe, yvm, yin, yfi, yde, yap, (nI a), 2, 0, yco, yti, yna, yac, yen, yic, o, l, kS, d, pl, ys, yk, yn, yp, yf, yo, yi, yw, ya, y1, y2, yK, yW, yL, yq, nm, nv, no, yA, lf, rt, iK, iN)) : wpY_goOn post (yma, ypo, yhe, yvm, yin, yfi, yde, yap, yas, yto, yan, yco, yti, yna, yac, yen, yic, o, l, kS, d, pl, ys, yk, yn, yp, yf, yo, yi, yw, ya, y1, y2, yK, yW, yL, yq, nm, nv, no, yA, lf, rt, iK, iN) (nI g) := by
  have eg' : (nI g).toNatClampNeg = g := nI_clamp (by omega)
  have hin : vp_in (nI g) 601 := vp_in_nI (by omega) (by omega)
  have hiq : vp_in (nI q) 40 := vp_in_nI hq (by omega)
  refine yg_pre hg eo hq ek (by omega) (fun w => absurd w (by omega)) (fun e => absurd e (by omega)) (fun _ _ w => absurd w (by rw [e2]; exact nI_pos (by omega))) (fun _ _ _ => ?_)
  unfold wpY_goOnSecond
  dsimp only
  rw [eg']
  exact br_f (by rw [et]; decide) (br_t et (yr_tell ea hp))
theorem yh_0p {yma ypo yhe yvm : Int32} {yin : Int64} {yfi yde yap yas yto : Int32} {yan : Int64} {yco yti yna yac yen yic : Int32} {o l kS d : Nat → Int32} {pl ys : Nat → Int64} {yk yn yp yf yo : Nat → Int32} {yi : Nat → Int64} {yw ya y1 y2 : Nat → Int32} {yK : Nat → Int64} {yW : Nat → Int32} {yL : Nat → Int64} {yq nm : Nat → Int32} {nv : Nat → Int64} {no : Nat → Int32} {yA lf rt : Nat → Int64} {iK iN : Nat → Int32} {post : SY → Prop} {g q kk f : Nat} (hg : g < 600) (eo : yo g = nI q) (hq : q < 40) (ek : yk q = nI kk) (h30 : 30 ≤ kk) (h50 : kk ≤ 50) (e2 : y2 g = nI f) (hf : f < 600) {a : Nat} (ea : yas = nI (a + 1)) (et : yto = 0) (hk : kk < 32 ∨ 40 < kk) (hp : post (yma, ypo, yhe, yvm, yin, yfi, yde, yap, (nI a), 0, yan, yco, yti, yna, yac, yen, yic, o, l, kS, d, pl, ys, yk, yn, yp, yf, yo, yi, yw, ya, y1, y2, yK, yW, yL, yq, nm, nv, no, yA, lf, rt, iK, iN)) : wpY_goOn post (yma, ypo, yhe, yvm, yin, yfi, yde, yap, yas, yto, yan, yco, yti, yna, yac, yen, yic, o, l, kS, d, pl, ys, yk, yn, yp, yf, yo, yi, yw, ya, y1, y2, yK, yW, yL, yq, nm, nv, no, yA, lf, rt, iK, iN) (nI g) := by
  have eg' : (nI g).toNatClampNeg = g := nI_clamp (by omega)
  have hin : vp_in (nI g) 601 := vp_in_nI (by omega) (by omega)
  have hiq : vp_in (nI q) 40 := vp_in_nI hq (by omega)
  refine yg_pre hg eo hq ek (by omega) (fun w => absurd w (by omega)) (fun e => absurd e (by omega)) (fun _ _ w => absurd w (by rw [e2]; exact nI_pos (by omega))) (fun _ _ _ => ?_)
  unfold wpY_goOnSecond
  dsimp only
  rw [eg']
  refine br_f (by rw [et]; decide) (br_f (by rw [et]; decide) (ym_isIn (fun _ => br_t rfl (yr_tell ea hp)) (fun w w' => ?_)))
  rcases hk with z | z
  · exact absurd (nI_lt (b := 32) z (by omega)) w
  · exact absurd (nI_lt (a := 40) z (by omega)) w'
theorem yh_0t {yma ypo yhe yvm : Int32} {yin : Int64} {yfi yde yap yas yto : Int32} {yan : Int64} {yco yti yna yac yen yic : Int32} {o l kS d : Nat → Int32} {pl ys : Nat → Int64} {yk yn yp yf yo : Nat → Int32} {yi : Nat → Int64} {yw ya y1 y2 : Nat → Int32} {yK : Nat → Int64} {yW : Nat → Int32} {yL : Nat → Int64} {yq nm : Nat → Int32} {nv : Nat → Int64} {no : Nat → Int32} {yA lf rt : Nat → Int64} {iK iN : Nat → Int32} {post : SY → Prop} {g q kk f : Nat} (hg : g < 600) (eo : yo g = nI q) (hq : q < 40) (ek : yk q = nI kk) (h30 : 30 ≤ kk) (h50 : kk ≤ 50) (e2 : y2 g = nI f) (hf : f < 600) {c : Nat} (et : yto = 0) (h32 : 32 ≤ kk) (h40 : kk ≤ 40) (ec : yco = nI 600) (hp : post (yma, ypo, yhe, yvm, yin, yfi, yde, yap, yas, yto, yan, yco, 1, yna, yac, yen, yic, o, l, kS, d, pl, ys, yk, yn, yp, yf, yo, yi, yw, ya, y1, y2, yK, yW, yL, yq, nm, nv, no, yA, lf, rt, iK, iN)) : wpY_goOn post (yma, ypo, yhe, yvm, yin, yfi, yde, yap, yas, yto, yan, yco, yti, yna, yac, yen, yic, o, l, kS, d, pl, ys, yk, yn, yp, yf, yo, yi, yw, ya, y1, y2, yK, yW, yL, yq, nm, nv, no, yA, lf, rt, iK, iN) (nI g) := by
  have eg' : (nI g).toNatClampNeg = g := nI_clamp (by omega)
  have hin : vp_in (nI g) 601 := vp_in_nI (by omega) (by omega)
  have hiq : vp_in (nI q) 40 := vp_in_nI hq (by omega)
  refine yg_pre hg eo hq ek (by omega) (fun w => absurd w (by omega)) (fun e => absurd e (by omega)) (fun _ _ w => absurd w (by rw [e2]; exact nI_pos (by omega))) (fun _ _ _ => ?_)
  unfold wpY_goOnSecond
  dsimp only
  rw [eg']
  exact br_f (by rw [et]; decide) (br_f (by rw [et]; decide) (ym_isIn (fun w => absurd w (fun w => w.elim (nI_nlt (b := 32) h32 (by omega)) (nI_nlt (a := 40) h40 (by omega)))) (fun _ _ => br_f (by decide) (yr_tired ec (br_t rfl hp)))))
theorem yh_0b {yma ypo yhe yvm : Int32} {yin : Int64} {yfi yde yap yas yto : Int32} {yan : Int64} {yco yti yna yac yen yic : Int32} {o l kS d : Nat → Int32} {pl ys : Nat → Int64} {yk yn yp yf yo : Nat → Int32} {yi : Nat → Int64} {yw ya y1 y2 : Nat → Int32} {yK : Nat → Int64} {yW : Nat → Int32} {yL : Nat → Int64} {yq nm : Nat → Int32} {nv : Nat → Int64} {no : Nat → Int32} {yA lf rt : Nat → Int64} {iK iN : Nat → Int32} {post : SY → Prop} {g q kk f : Nat} (hg : g < 600) (eo : yo g = nI q) (hq : q < 40) (ek : yk q = nI kk) (h30 : 30 ≤ kk) (h50 : kk ≤ 50) (e2 : y2 g = nI f) (hf : f < 600) {a : Nat} (ea : yas = nI (a + 1)) {c κ : Nat} {x : Int32} (et : yto = 0) (h39 : 39 ≤ kk) (h40 : kk ≤ 40) (ec : yco = nI c) (hc : c < 600) (ew : yan = yy_t κ x) (hκ : κ ≤ 5) (h2 : 2 ≤ κ → post (yma, ypo, yhe, yvm, yin, yfi, yde, yap, (nI a), 0, (yy_t 2 0), (nI (c + 1)), yti, yna, yac, yen, yic, o, l, kS, d, pl, ys, yk, yn, yp, yf, yo, yi, yw, ya, y1, y2, yK, yW, yL, yq, nm, nv, no, yA, lf, rt, iK, iN)) (h1 : κ < 2 → post (yma, ypo, yhe, yvm, yin, yfi, yde, yap, (nI a), 0, (yy_t 1 0), (nI (c + 1)), yti, yna, yac, yen, yic, o, l, kS, d, pl, ys, yk, yn, yp, yf, yo, yi, yw, ya, y1, y2, yK, yW, yL, yq, nm, nv, no, yA, lf, rt, iK, iN)) : wpY_goOn post (yma, ypo, yhe, yvm, yin, yfi, yde, yap, yas, yto, yan, yco, yti, yna, yac, yen, yic, o, l, kS, d, pl, ys, yk, yn, yp, yf, yo, yi, yw, ya, y1, y2, yK, yW, yL, yq, nm, nv, no, yA, lf, rt, iK, iN) (nI g) := by
  have eg' : (nI g).toNatClampNeg = g := nI_clamp (by omega)
  have hin : vp_in (nI g) 601 := vp_in_nI (by omega) (by omega)
  have hiq : vp_in (nI q) 40 := vp_in_nI hq (by omega)
  refine yg_pre hg eo hq ek (by omega) (fun w => absurd w (by omega)) (fun e => absurd e (by omega)) (fun _ _ w => absurd w (by rw [e2]; exact nI_pos (by omega))) (fun _ _ _ => ?_)
  unfold wpY_goOnSecond
  dsimp only
  rw [eg']
  have h32 : 32 ≤ kk := by omega
  refine br_f (by rw [et]; decide) (br_f (by rw [et]; decide) (ym_isIn (fun w => absurd w (fun w => w.elim (nI_nlt (b := 32) h32 (by omega)) (nI_nlt (a := 40) h40 (by omega)))) (fun _ _ => br_f (by decide) (yr_count ec hc ?_))))
  dsimp only
  refine br_f (by decide) (br_f (nI_ge (a := 38) (by omega) (by omega)) ?_)
  rw [ew]
  refine ym_isEmpty (by omega) (fun w => br_t rfl ?_) (fun w => br_f (by decide) ?_)
  · unfold wY_goOnSecond_112
    exact ym_truth (fun z => absurd z (by decide)) (fun _ => yr_tell ea (h2 w))
  · unfold wY_goOnSecond_112
    exact ym_truth (fun _ => yr_tell ea (h1 w)) (fun z => absurd rfl z)
theorem yh_0o {yma ypo yhe yvm : Int32} {yin : Int64} {yfi yde yap yas yto : Int32} {yan : Int64} {yco yti yna yac yen yic : Int32} {o l kS d : Nat → Int32} {pl ys : Nat → Int64} {yk yn yp yf yo : Nat → Int32} {yi : Nat → Int64} {yw ya y1 y2 : Nat → Int32} {yK : Nat → Int64} {yW : Nat → Int32} {yL : Nat → Int64} {yq nm : Nat → Int32} {nv : Nat → Int64} {no : Nat → Int32} {yA lf rt : Nat → Int64} {iK iN : Nat → Int32} {yma' ypo' yhe' yvm' : Int32} {yin' : Int64} {yfi' yde' yap' yas' yto' : Int32} {yan' : Int64} {yco' yti' yna' yac' yen' yic' : Int32} {o' l' kS' d' : Nat → Int32} {pl' ys' : Nat → Int64} {yk' yn' yp' yf' yo' : Nat → Int32} {yi' : Nat → Int64} {yw' ya' y1' y2' : Nat → Int32} {yK' : Nat → Int64} {yW' : Nat → Int32} {yL' : Nat → Int64} {yq' nm' : Nat → Int32} {nv' : Nat → Int64} {no' : Nat → Int32} {yA' lf' rt' : Nat → Int64} {iK' iN' : Nat → Int32} {post : SY → Prop} {g q kk f : Nat} (hg : g < 600) (eo : yo g = nI q) (hq : q < 40) (ek : yk q = nI kk) (h30 : 30 ≤ kk) (h50 : kk ≤ 50) (e2 : y2 g = nI f) (hf : f < 600) {c : Nat} (et : yto = 0) (h32 : 32 ≤ kk) (h38 : kk ≤ 38) (ec : yco = nI c) (hc : c < 600) (hA : ∀ Q : SY → Prop, Q (yma', ypo', yhe', yvm', yin', yfi', yde', yap', yas', yto', yan', yco', yti', yna', yac', yen', yic', o', l', kS', d', pl', ys', yk', yn', yp', yf', yo', yi', yw', ya', y1', y2', yK', yW', yL', yq', nm', nv', no', yA', lf', rt', iK', iN') → wpY_operate Q (yma, ypo, yhe, yvm, yin, yfi, yde, yap, yas, yto, yan, (nI (c + 1)), yti, yna, yac, yen, yic, o, l, kS, d, pl, ys, yk, yn, yp, yf, yo, yi, yw, ya, y1, y2, yK, yW, yL, yq, nm, nv, no, yA, lf, rt, iK, iN) (nI kk) (yK g) yan) (hp : post (yma', ypo', yhe', yvm', yin', yfi', yde', yap', yas', yto', yan', yco', yti', yna', yac', yen', yic', o', l', kS', d', pl', ys', yk', yn', yp', yf', yo', yi', yw', ya', y1', y2', yK', yW', yL', yq', nm', nv', no', yA', lf', rt', iK', iN')) : wpY_goOn post (yma, ypo, yhe, yvm, yin, yfi, yde, yap, yas, yto, yan, yco, yti, yna, yac, yen, yic, o, l, kS, d, pl, ys, yk, yn, yp, yf, yo, yi, yw, ya, y1, y2, yK, yW, yL, yq, nm, nv, no, yA, lf, rt, iK, iN) (nI g) := by
  have eg' : (nI g).toNatClampNeg = g := nI_clamp (by omega)
  have hin : vp_in (nI g) 601 := vp_in_nI (by omega) (by omega)
  have hiq : vp_in (nI q) 40 := vp_in_nI hq (by omega)
  refine yg_pre hg eo hq ek (by omega) (fun w => absurd w (by omega)) (fun e => absurd e (by omega)) (fun _ _ w => absurd w (by rw [e2]; exact nI_pos (by omega))) (fun _ _ _ => ?_)
  unfold wpY_goOnSecond
  dsimp only
  rw [eg']
  have h40 : kk ≤ 40 := by omega
  refine br_f (by rw [et]; decide) (br_f (by rw [et]; decide) (ym_isIn (fun w => absurd w (fun w => w.elim (nI_nlt (b := 32) h32 (by omega)) (nI_nlt (a := 40) h40 (by omega)))) (fun _ _ => br_f (by decide) (yr_count ec hc ?_))))
  dsimp only
  exact br_f (by decide) (br_t (nI_le (b := 38) h38 (by omega)) ⟨hin, hA _ hp⟩)
theorem yo_2 {yma ypo yhe yvm : Int32} {yin : Int64} {yfi yde yap yas yto : Int32} {yan : Int64} {yco yti yna yac yen yic : Int32} {o l kS d : Nat → Int32} {pl ys : Nat → Int64} {yk yn yp yf yo : Nat → Int32} {yi : Nat → Int64} {yw ya y1 y2 : Nat → Int32} {yK : Nat → Int64} {yW : Nat → Int32} {yL : Nat → Int64} {yq nm : Nat → Int32} {nv : Nat → Int64} {no : Nat → Int32} {yA lf rt : Nat → Int64} {iK iN : Nat → Int32} {post : SY → Prop} {g q : Nat} (hg : g < 600) (eo : yo g = nI q) (hq : q < 40) (ek : yk q = nI 51) {a : Nat} (ea : yas = nI (a + 1)) (et : yto = 2) (hp : post (yma, ypo, yhe, yvm, yin, yfi, yde, yap, (nI a), 2, 0, yco, yti, yna, yac, yen, yic, o, l, kS, d, pl, ys, yk, yn, yp, yf, yo, yi, yw, ya, y1, y2, yK, yW, yL, yq, nm, nv, no, yA, lf, rt, iK, iN)) : wpY_goOn post (yma, ypo, yhe, yvm, yin, yfi, yde, yap, yas, yto, yan, yco, yti, yna, yac, yen, yic, o, l, kS, d, pl, ys, yk, yn, yp, yf, yo, yi, yw, ya, y1, y2, yK, yW, yL, yq, nm, nv, no, yA, lf, rt, iK, iN) (nI g) := by
  have eg' : (nI g).toNatClampNeg = g := nI_clamp (by omega)
  have hin : vp_in (nI g) 601 := vp_in_nI (by omega) (by omega)
  have hiq : vp_in (nI q) 40 := vp_in_nI hq (by omega)
  refine yg_pre hg eo hq ek (by omega) (fun w => absurd w (by omega)) (fun _ => ?_) (fun _ w => absurd rfl w) (fun _ w => absurd rfl w)
  unfold wpY_goOnFold
  dsimp only
  rw [eg']
  refine ⟨hin, nm_e ?_⟩
  exact br_t et (yr_tell ea hp)
theorem yo_0b {yma ypo yhe yvm : Int32} {yin : Int64} {yfi yde yap yas yto : Int32} {yan : Int64} {yco yti yna yac yen yic : Int32} {o l kS d : Nat → Int32} {pl ys : Nat → Int64} {yk yn yp yf yo : Nat → Int32} {yi : Nat → Int64} {yw ya y1 y2 : Nat → Int32} {yK : Nat → Int64} {yW : Nat → Int32} {yL : Nat → Int64} {yq nm : Nat → Int32} {nv : Nat → Int64} {no : Nat → Int32} {yA lf rt : Nat → Int64} {iK iN : Nat → Int32} {post : SY → Prop} {g q : Nat} (hg : g < 600) (eo : yo g = nI q) (hq : q < 40) (ek : yk q = nI 51) {a : Nat} (ea : yas = nI (a + 1)) {f : Nat} (ha : a < 600) (et : yto = 0) (eF : ya g = 0) (e2 : y2 g = nI f) (hp : post (yma, ypo, yhe, yvm, yin, yfi, yde, yap, (nI (a + 2)), yto, yan, yco, yti, yna, yac, yen, yic, o, l, kS, d, pl, ys, yk, yn, yp, yf, yo, yi, yw, ya, y1, y2, (vp_updL yK g yan), yW, yL, (upd yq (a + 1) (nI f)), nm, nv, no, yA, lf, rt, iK, iN)) : wpY_goOn post (yma, ypo, yhe, yvm, yin, yfi, yde, yap, yas, yto, yan, yco, yti, yna, yac, yen, yic, o, l, kS, d, pl, ys, yk, yn, yp, yf, yo, yi, yw, ya, y1, y2, yK, yW, yL, yq, nm, nv, no, yA, lf, rt, iK, iN) (nI g) := by
  have eg' : (nI g).toNatClampNeg = g := nI_clamp (by omega)
  have hin : vp_in (nI g) 601 := vp_in_nI (by omega) (by omega)
  have hiq : vp_in (nI q) 40 := vp_in_nI hq (by omega)
  refine yg_pre hg eo hq ek (by omega) (fun w => absurd w (by omega)) (fun _ => ?_) (fun _ w => absurd rfl w) (fun _ w => absurd rfl w)
  unfold wpY_goOnFold
  dsimp only
  rw [eg']
  refine ⟨hin, nm_e ?_⟩
  rw [eF]
  refine br_f (by rw [et]; decide) (br_t et (br_f (by decide) (br_t rfl ?_)))
  unfold wY_goOnFold_58
  rw [eg']
  refine ⟨hin, nm_e (br_f (by decide) ⟨hin, ?_⟩)⟩
  unfold wY_goOnFold_82
  rw [eg', upL_self, e2]
  exact ⟨hin, nm_e ⟨hin, yr_askAgain ea (by omega) hp⟩⟩
theorem yo_0c {yma ypo yhe yvm : Int32} {yin : Int64} {yfi yde yap yas yto : Int32} {yan : Int64} {yco yti yna yac yen yic : Int32} {o l kS d : Nat → Int32} {pl ys : Nat → Int64} {yk yn yp yf yo : Nat → Int32} {yi : Nat → Int64} {yw ya y1 y2 : Nat → Int32} {yK : Nat → Int64} {yW : Nat → Int32} {yL : Nat → Int64} {yq nm : Nat → Int32} {nv : Nat → Int64} {no : Nat → Int32} {yA lf rt : Nat → Int64} {iK iN : Nat → Int32} {post : SY → Prop} {g q : Nat} (hg : g < 600) (eo : yo g = nI q) (hq : q < 40) (ek : yk q = nI 51) {a : Nat} (ea : yas = nI (a + 1)) {f : Nat} (ha : a < 600) (et : yto = 0) (eF : ya g = 2) (e2 : y2 g = nI f) (hp : post (yma, ypo, yhe, yvm, yin, yfi, yde, yap, (nI (a + 2)), yto, yan, yco, yti, yna, yac, yen, yic, o, l, kS, d, pl, ys, yk, yn, yp, yf, yo, yi, yw, ya, y1, y2, yK, yW, (vp_updL yL g yan), (upd yq (a + 1) (nI f)), nm, nv, no, yA, lf, rt, iK, iN)) : wpY_goOn post (yma, ypo, yhe, yvm, yin, yfi, yde, yap, yas, yto, yan, yco, yti, yna, yac, yen, yic, o, l, kS, d, pl, ys, yk, yn, yp, yf, yo, yi, yw, ya, y1, y2, yK, yW, yL, yq, nm, nv, no, yA, lf, rt, iK, iN) (nI g) := by
  have eg' : (nI g).toNatClampNeg = g := nI_clamp (by omega)
  have hin : vp_in (nI g) 601 := vp_in_nI (by omega) (by omega)
  have hiq : vp_in (nI q) 40 := vp_in_nI hq (by omega)
  refine yg_pre hg eo hq ek (by omega) (fun w => absurd w (by omega)) (fun _ => ?_) (fun _ w => absurd rfl w) (fun _ w => absurd rfl w)
  unfold wpY_goOnFold
  dsimp only
  rw [eg']
  refine ⟨hin, nm_e ?_⟩
  rw [eF]
  refine br_f (by rw [et]; decide) (br_t et (br_f (by decide) (br_f (by decide) ⟨hin, ?_⟩)))
  unfold wY_goOnFold_58
  rw [eg', upL_self]
  refine ⟨hin, nm_e (br_t rfl ?_)⟩
  unfold wY_goOnFold_82
  rw [eg', e2]
  exact ⟨hin, nm_e ⟨hin, yr_askAgain ea (by omega) hp⟩⟩
theorem yo_0a {yma ypo yhe yvm : Int32} {yin : Int64} {yfi yde yap yas yto : Int32} {yan : Int64} {yco yti yna yac yen yic : Int32} {o l kS d : Nat → Int32} {pl ys : Nat → Int64} {yk yn yp yf yo : Nat → Int32} {yi : Nat → Int64} {yw ya y1 y2 : Nat → Int32} {yK : Nat → Int64} {yW : Nat → Int32} {yL : Nat → Int64} {yq nm : Nat → Int32} {nv : Nat → Int64} {no : Nat → Int32} {yA lf rt : Nat → Int64} {iK iN : Nat → Int32} {yma' ypo' yhe' yvm' : Int32} {yin' : Int64} {yfi' yde' yap' yas' yto' : Int32} {yan' : Int64} {yco' yti' yna' yac' yen' yic' : Int32} {o' l' kS' d' : Nat → Int32} {pl' ys' : Nat → Int64} {yk' yn' yp' yf' yo' : Nat → Int32} {yi' : Nat → Int64} {yw' ya' y1' y2' : Nat → Int32} {yK' : Nat → Int64} {yW' : Nat → Int32} {yL' : Nat → Int64} {yq' nm' : Nat → Int32} {nv' : Nat → Int64} {no' : Nat → Int32} {yA' lf' rt' : Nat → Int64} {iK' iN' : Nat → Int32} {post : SY → Prop} {g q : Nat} (hg : g < 600) (eo : yo g = nI q) (hq : q < 40) (ek : yk q = nI 51) {nd : Nat} (et : yto = 0) (eF : ya g = 1) (en : yna = nI nd) (hn : nd < 700) (hA : ∀ Q : SY → Prop, Q (yma', ypo', yhe', yvm', yin', yfi', yde', yap', yas', yto', yan', yco', yti', yna', yac', yen', yic', o', l', kS', d', pl', ys', yk', yn', yp', yf', yo', yi', yw', ya', y1', y2', yK', yW', yL', yq', nm', nv', no', yA', lf', rt', iK', iN') → wpY_askSecond Q (yma, ypo, yhe, yvm, yin, yfi, yde, yap, yas, yto, yan, yco, yti, (nI (nd + 1)), yac, yen, yic, o, l, kS, d, pl, ys, yk, yn, yp, yf, yo, yi, yw, (upd ya g 2), y1, y2, yK, yW, (vp_updL yL g 0), yq, (upd nm nd (yn q)), (vp_updL nv nd yan), (upd no nd (yw g)), yA, lf, rt, iK, iN) (nI g) (nI 2) (yK g) (nI nd)) (hp : post (yma', ypo', yhe', yvm', yin', yfi', yde', yap', yas', yto', yan', yco', yti', yna', yac', yen', yic', o', l', kS', d', pl', ys', yk', yn', yp', yf', yo', yi', yw', ya', y1', y2', yK', yW', yL', yq', nm', nv', no', yA', lf', rt', iK', iN')) : wpY_goOn post (yma, ypo, yhe, yvm, yin, yfi, yde, yap, yas, yto, yan, yco, yti, yna, yac, yen, yic, o, l, kS, d, pl, ys, yk, yn, yp, yf, yo, yi, yw, ya, y1, y2, yK, yW, yL, yq, nm, nv, no, yA, lf, rt, iK, iN) (nI g) := by
  have eg' : (nI g).toNatClampNeg = g := nI_clamp (by omega)
  have hin : vp_in (nI g) 601 := vp_in_nI (by omega) (by omega)
  have hiq : vp_in (nI q) 40 := vp_in_nI hq (by omega)
  refine yg_pre hg eo hq ek (by omega) (fun w => absurd w (by omega)) (fun _ => ?_) (fun _ w => absurd rfl w) (fun _ w => absurd rfl w)
  unfold wpY_goOnFold
  dsimp only
  rw [eg']
  refine ⟨hin, nm_e ?_⟩
  rw [eF]
  refine br_f (by rw [et]; decide) (br_t et (br_t rfl ?_))
  unfold wY_goOnFold_96
  rw [eg', eo, nI_clamp (show q < 2 ^ 31 by omega)]
  refine br_t et ⟨hin, hiq, hin, yr_bind en hn ?_⟩
  exact ⟨hin, nm_e ⟨hin, nm_e ⟨hin, hA _ hp⟩⟩⟩
theorem yo_1a {yma ypo yhe yvm : Int32} {yin : Int64} {yfi yde yap yas yto : Int32} {yan : Int64} {yco yti yna yac yen yic : Int32} {o l kS d : Nat → Int32} {pl ys : Nat → Int64} {yk yn yp yf yo : Nat → Int32} {yi : Nat → Int64} {yw ya y1 y2 : Nat → Int32} {yK : Nat → Int64} {yW : Nat → Int32} {yL : Nat → Int64} {yq nm : Nat → Int32} {nv : Nat → Int64} {no : Nat → Int32} {yA lf rt : Nat → Int64} {iK iN : Nat → Int32} {post : SY → Prop} {g q : Nat} (hg : g < 600) (eo : yo g = nI q) (hq : q < 40) (ek : yk q = nI 51) {a : Nat} (ea : yas = nI (a + 1)) (et : yto = 1) (eF : ya g = 1) (hp : post (yma, ypo, yhe, yvm, yin, yfi, yde, yap, (nI a), 0, (yK g), yco, yti, yna, yac, yen, yic, o, l, kS, d, pl, ys, yk, yn, yp, yf, yo, yi, yw, (upd ya g 3), y1, y2, yK, yW, yL, yq, nm, nv, no, yA, lf, rt, iK, iN)) : wpY_goOn post (yma, ypo, yhe, yvm, yin, yfi, yde, yap, yas, yto, yan, yco, yti, yna, yac, yen, yic, o, l, kS, d, pl, ys, yk, yn, yp, yf, yo, yi, yw, ya, y1, y2, yK, yW, yL, yq, nm, nv, no, yA, lf, rt, iK, iN) (nI g) := by
  have eg' : (nI g).toNatClampNeg = g := nI_clamp (by omega)
  have hin : vp_in (nI g) 601 := vp_in_nI (by omega) (by omega)
  have hiq : vp_in (nI q) 40 := vp_in_nI hq (by omega)
  refine yg_pre hg eo hq ek (by omega) (fun w => absurd w (by omega)) (fun _ => ?_) (fun _ w => absurd rfl w) (fun _ w => absurd rfl w)
  unfold wpY_goOnFold
  dsimp only
  rw [eg']
  refine ⟨hin, nm_e ?_⟩
  rw [eF]
  refine br_f (by rw [et]; decide) (br_f (by rw [et]; decide) ?_)
  unfold wY_goOnFold_96
  rw [eg']
  exact br_f (by rw [et]; decide) (br_t rfl ⟨hin, nm_e ⟨hin, yr_tell ea hp⟩⟩)
theorem yo_1c {yma ypo yhe yvm : Int32} {yin : Int64} {yfi yde yap yas yto : Int32} {yan : Int64} {yco yti yna yac yen yic : Int32} {o l kS d : Nat → Int32} {pl ys : Nat → Int64} {yk yn yp yf yo : Nat → Int32} {yi : Nat → Int64} {yw ya y1 y2 : Nat → Int32} {yK : Nat → Int64} {yW : Nat → Int32} {yL : Nat → Int64} {yq nm : Nat → Int32} {nv : Nat → Int64} {no : Nat → Int32} {yA lf rt : Nat → Int64} {iK iN : Nat → Int32} {yma' ypo' yhe' yvm' : Int32} {yin' : Int64} {yfi' yde' yap' yas' yto' : Int32} {yan' : Int64} {yco' yti' yna' yac' yen' yic' : Int32} {o' l' kS' d' : Nat → Int32} {pl' ys' : Nat → Int64} {yk' yn' yp' yf' yo' : Nat → Int32} {yi' : Nat → Int64} {yw' ya' y1' y2' : Nat → Int32} {yK' : Nat → Int64} {yW' : Nat → Int32} {yL' : Nat → Int64} {yq' nm' : Nat → Int32} {nv' : Nat → Int64} {no' : Nat → Int32} {yA' lf' rt' : Nat → Int64} {iK' iN' : Nat → Int32} {post : SY → Prop} {g q : Nat} (hg : g < 600) (eo : yo g = nI q) (hq : q < 40) (ek : yk q = nI 51) (et : yto = 1) (eF : ya g = 2) (hA : ∀ Q : SY → Prop, Q (yma', ypo', yhe', yvm', yin', yfi', yde', yap', yas', yto', yan', yco', yti', yna', yac', yen', yic', o', l', kS', d', pl', ys', yk', yn', yp', yf', yo', yi', yw', ya', y1', y2', yK', yW', yL', yq', nm', nv', no', yA', lf', rt', iK', iN') → wpY_askFirst Q (yma, ypo, yhe, yvm, yin, yfi, yde, yap, yas, yto, yan, yco, yti, yna, yac, yen, yic, o, l, kS, d, pl, ys, yk, yn, yp, yf, yo, yi, yw, (upd ya g 1), y1, y2, (vp_updL yK g (yL g)), yW, yL, yq, nm, nv, no, yA, lf, rt, iK, iN) (nI g)) (hp : post (yma', ypo', yhe', yvm', yin', yfi', yde', yap', yas', yto', yan', yco', yti', yna', yac', yen', yic', o', l', kS', d', pl', ys', yk', yn', yp', yf', yo', yi', yw', ya', y1', y2', yK', yW', yL', yq', nm', nv', no', yA', lf', rt', iK', iN')) : wpY_goOn post (yma, ypo, yhe, yvm, yin, yfi, yde, yap, yas, yto, yan, yco, yti, yna, yac, yen, yic, o, l, kS, d, pl, ys, yk, yn, yp, yf, yo, yi, yw, ya, y1, y2, yK, yW, yL, yq, nm, nv, no, yA, lf, rt, iK, iN) (nI g) := by
  have eg' : (nI g).toNatClampNeg = g := nI_clamp (by omega)
  have hin : vp_in (nI g) 601 := vp_in_nI (by omega) (by omega)
  have hiq : vp_in (nI q) 40 := vp_in_nI hq (by omega)
  refine yg_pre hg eo hq ek (by omega) (fun w => absurd w (by omega)) (fun _ => ?_) (fun _ w => absurd rfl w) (fun _ w => absurd rfl w)
  unfold wpY_goOnFold
  dsimp only
  rw [eg']
  refine ⟨hin, nm_e ?_⟩
  rw [eF]
  refine br_f (by rw [et]; decide) (br_f (by rw [et]; decide) ?_)
  unfold wY_goOnFold_96
  rw [eg']
  refine br_f (by rw [et]; decide) (br_f (by decide) (br_t rfl ⟨hin, ?_⟩))
  unfold wY_goOnFold_210
  rw [eg']
  exact ⟨hin, nm_e ⟨hin, nm_e (hA _ hp)⟩⟩
theorem yo_1b {yma ypo yhe yvm : Int32} {yin : Int64} {yfi yde yap yas yto : Int32} {yan : Int64} {yco yti yna yac yen yic : Int32} {o l kS d : Nat → Int32} {pl ys : Nat → Int64} {yk yn yp yf yo : Nat → Int32} {yi : Nat → Int64} {yw ya y1 y2 : Nat → Int32} {yK : Nat → Int64} {yW : Nat → Int32} {yL : Nat → Int64} {yq nm : Nat → Int32} {nv : Nat → Int64} {no : Nat → Int32} {yA lf rt : Nat → Int64} {iK iN : Nat → Int32} {yma' ypo' yhe' yvm' : Int32} {yin' : Int64} {yfi' yde' yap' yas' yto' : Int32} {yan' : Int64} {yco' yti' yna' yac' yen' yic' : Int32} {o' l' kS' d' : Nat → Int32} {pl' ys' : Nat → Int64} {yk' yn' yp' yf' yo' : Nat → Int32} {yi' : Nat → Int64} {yw' ya' y1' y2' : Nat → Int32} {yK' : Nat → Int64} {yW' : Nat → Int32} {yL' : Nat → Int64} {yq' nm' : Nat → Int32} {nv' : Nat → Int64} {no' : Nat → Int32} {yA' lf' rt' : Nat → Int64} {iK' iN' : Nat → Int32} {post : SY → Prop} {g q : Nat} (hg : g < 600) (eo : yo g = nI q) (hq : q < 40) (ek : yk q = nI 51) (et : yto = 1) (eF : ya g = 0) (hA : ∀ Q : SY → Prop, Q (yma', ypo', yhe', yvm', yin', yfi', yde', yap', yas', yto', yan', yco', yti', yna', yac', yen', yic', o', l', kS', d', pl', ys', yk', yn', yp', yf', yo', yi', yw', ya', y1', y2', yK', yW', yL', yq', nm', nv', no', yA', lf', rt', iK', iN') → wpY_askFirst Q (yma, ypo, yhe, yvm, yin, yfi, yde, yap, yas, yto, yan, yco, yti, yna, yac, yen, yic, o, l, kS, d, pl, ys, yk, yn, yp, yf, yo, yi, yw, (upd ya g 1), y1, y2, yK, yW, yL, yq, nm, nv, no, yA, lf, rt, iK, iN) (nI g)) (hp : post (yma', ypo', yhe', yvm', yin', yfi', yde', yap', yas', yto', yan', yco', yti', yna', yac', yen', yic', o', l', kS', d', pl', ys', yk', yn', yp', yf', yo', yi', yw', ya', y1', y2', yK', yW', yL', yq', nm', nv', no', yA', lf', rt', iK', iN')) : wpY_goOn post (yma, ypo, yhe, yvm, yin, yfi, yde, yap, yas, yto, yan, yco, yti, yna, yac, yen, yic, o, l, kS, d, pl, ys, yk, yn, yp, yf, yo, yi, yw, ya, y1, y2, yK, yW, yL, yq, nm, nv, no, yA, lf, rt, iK, iN) (nI g) := by
  have eg' : (nI g).toNatClampNeg = g := nI_clamp (by omega)
  have hin : vp_in (nI g) 601 := vp_in_nI (by omega) (by omega)
  have hiq : vp_in (nI q) 40 := vp_in_nI hq (by omega)
  refine yg_pre hg eo hq ek (by omega) (fun w => absurd w (by omega)) (fun _ => ?_) (fun _ w => absurd rfl w) (fun _ w => absurd rfl w)
  unfold wpY_goOnFold
  dsimp only
  rw [eg']
  refine ⟨hin, nm_e ?_⟩
  rw [eF]
  refine br_f (by rw [et]; decide) (br_f (by rw [et]; decide) ?_)
  unfold wY_goOnFold_96
  rw [eg']
  refine br_f (by rw [et]; decide) (br_f (by decide) (br_f (by decide) ⟨hin, ?_⟩))
  unfold wY_goOnFold_210
  rw [eg', upL_self]
  exact ⟨hin, nm_e ⟨hin, nm_e (hA _ hp)⟩⟩
