/-! ===== Y goes on ===== -/
theorem up_self (f : Nat → Int32) (k : Nat) : upd f k (f k) = f := by
  funext j
  by_cases e : j = k
  · subst e; rw [pk_us]
  · rw [pk_un e]
theorem upL_self (f : Nat → Int64) (k : Nat) : vp_updL f k (f k) = f := by
  funext j
  by_cases e : j = k
  · subst e; rw [pk_uLs]
  · rw [pk_uLn e]
theorem yg_pre {yma ypo yhe yvm : Int32} {yin : Int64} {yfi yde yap yas yto : Int32} {yan : Int64} {yco yti yna yac yen yic : Int32} {o l kS d : Nat → Int32} {pl ys : Nat → Int64} {yk yn yp yf yo : Nat → Int32} {yi : Nat → Int64} {yw ya y1 y2 : Nat → Int32} {yK : Nat → Int64} {yW : Nat → Int32} {yL : Nat → Int64} {yq nm : Nat → Int32} {nv : Nat → Int64} {no : Nat → Int32} {yA lf rt : Nat → Int64} {iK iN : Nat → Int32} {post : SY → Prop} {g q kk : Nat} (hg : g < 600) (eo : yo g = nI q) (hq : q < 40) (ek : yk q = nI kk) (hk : kk < 60)
    (h1 : kk < 30 → wpY_goOnOne (fun u => match u with | (yma', ypo', yhe', yvm', yin', yfi', yde', yap', yas', yto', yan', yco', yti', yna', yac', yen', yic', o', l', kS', d', pl', ys', yk', yn', yp', yf', yo', yi', yw', ya', y1', y2', yK', yW', yL', yq', nm', nv', no', yA', lf', rt', iK', iN') => post (yma', ypo', yhe', yvm', yin', yfi', yde', yap', yas', yto', yan', yco', yti', yna', yac', yen', yic', o', l', kS', d', pl', ys', yk', yn', yp', yf', yo', yi', yw', ya', y1', y2', yK', yW', yL', yq', nm', nv', no', yA', lf', rt', iK', iN')) (yma, ypo, yhe, yvm, yin, yfi, yde, yap, yas, yto, yan, yco, yti, yna, yac, yen, yic, o, l, kS, d, pl, ys, yk, yn, yp, yf, yo, yi, yw, ya, y1, y2, yK, yW, yL, yq, nm, nv, no, yA, lf, rt, iK, iN) (nI g) (nI kk)) (h51 : kk = 51 → wpY_goOnFold (fun u => match u with | (yma', ypo', yhe', yvm', yin', yfi', yde', yap', yas', yto', yan', yco', yti', yna', yac', yen', yic', o', l', kS', d', pl', ys', yk', yn', yp', yf', yo', yi', yw', ya', y1', y2', yK', yW', yL', yq', nm', nv', no', yA', lf', rt', iK', iN') => post (yma', ypo', yhe', yvm', yin', yfi', yde', yap', yas', yto', yan', yco', yti', yna', yac', yen', yic', o', l', kS', d', pl', ys', yk', yn', yp', yf', yo', yi', yw', ya', y1', y2', yK', yW', yL', yq', nm', nv', no', yA', lf', rt', iK', iN')) (yma, ypo, yhe, yvm, yin, yfi, yde, yap, yas, yto, yan, yco, yti, yna, yac, yen, yic, o, l, kS, d, pl, ys, yk, yn, yp, yf, yo, yi, yw, ya, y1, y2, yK, yW, yL, yq, nm, nv, no, yA, lf, rt, iK, iN) (nI g))
    (hf : 30 ≤ kk → kk ≠ 51 → y2 g < 0 → wpY_goOnFirst (fun u => match u with | (yma', ypo', yhe', yvm', yin', yfi', yde', yap', yas', yto', yan', yco', yti', yna', yac', yen', yic', o', l', kS', d', pl', ys', yk', yn', yp', yf', yo', yi', yw', ya', y1', y2', yK', yW', yL', yq', nm', nv', no', yA', lf', rt', iK', iN') => post (yma', ypo', yhe', yvm', yin', yfi', yde', yap', yas', yto', yan', yco', yti', yna', yac', yen', yic', o', l', kS', d', pl', ys', yk', yn', yp', yf', yo', yi', yw', ya', y1', y2', yK', yW', yL', yq', nm', nv', no', yA', lf', rt', iK', iN')) (yma, ypo, yhe, yvm, yin, yfi, yde, yap, yas, yto, yan, yco, yti, yna, yac, yen, yic, o, l, kS, d, pl, ys, yk, yn, yp, yf, yo, yi, yw, ya, y1, y2, yK, yW, yL, yq, nm, nv, no, yA, lf, rt, iK, iN) (nI g) (nI kk)) (hs : 30 ≤ kk → kk ≠ 51 → ¬ y2 g < 0 → wpY_goOnSecond (fun u => match u with | (yma', ypo', yhe', yvm', yin', yfi', yde', yap', yas', yto', yan', yco', yti', yna', yac', yen', yic', o', l', kS', d', pl', ys', yk', yn', yp', yf', yo', yi', yw', ya', y1', y2', yK', yW', yL', yq', nm', nv', no', yA', lf', rt', iK', iN') => post (yma', ypo', yhe', yvm', yin', yfi', yde', yap', yas', yto', yan', yco', yti', yna', yac', yen', yic', o', l', kS', d', pl', ys', yk', yn', yp', yf', yo', yi', yw', ya', y1', y2', yK', yW', yL', yq', nm', nv', no', yA', lf', rt', iK', iN')) (yma, ypo, yhe, yvm, yin, yfi, yde, yap, yas, yto, yan, yco, yti, yna, yac, yen, yic, o, l, kS, d, pl, ys, yk, yn, yp, yf, yo, yi, yw, ya, y1, y2, yK, yW, yL, yq, nm, nv, no, yA, lf, rt, iK, iN) (nI g) (nI kk)) : wpY_goOn post (yma, ypo, yhe, yvm, yin, yfi, yde, yap, yas, yto, yan, yco, yti, yna, yac, yen, yic, o, l, kS, d, pl, ys, yk, yn, yp, yf, yo, yi, yw, ya, y1, y2, yK, yW, yL, yq, nm, nv, no, yA, lf, rt, iK, iN) (nI g) := by
  have eg' : (nI g).toNatClampNeg = g := nI_clamp (by omega)
  have hin : vp_in (nI g) 601 := vp_in_nI (by omega) (by omega)
  have hiq : vp_in (nI q) 40 := vp_in_nI hq (by omega)
  unfold wpY_goOn
  dsimp only
  rw [eg', eo, nI_clamp (show q < 2 ^ 31 by omega), ek]
  exact ⟨hin, hiq, nm_e (pk_le 30 kk (fun w => pk_eq kk 51 (fun e => h51 e) (fun ne => ⟨hin, br_c (fun z => hf w ne z) (fun z => hs w ne z)⟩)) (fun w => h1 w))⟩
theorem yg_all2 {yma ypo yhe yvm : Int32} {yin : Int64} {yfi yde yap yas yto : Int32} {yan : Int64} {yco yti yna yac yen yic : Int32} {o l kS d : Nat → Int32} {pl ys : Nat → Int64} {yk yn yp yf yo : Nat → Int32} {yi : Nat → Int64} {yw ya y1 y2 : Nat → Int32} {yK : Nat → Int64} {yW : Nat → Int32} {yL : Nat → Int64} {yq nm : Nat → Int32} {nv : Nat → Int64} {no : Nat → Int32} {yA lf rt : Nat → Int64} {iK iN : Nat → Int32} {post : SY → Prop} {g q : Nat} (hg : g < 600) (eo : yo g = nI q) (hq : q < 40) (ek : yk q = nI 20) {a : Nat} (ea : yas = nI (a + 1)) (et : yto = 2) (hp : post (yma, ypo, yhe, yvm, yin, yfi, yde, yap, (nI a), 2, 0, yco, yti, yna, yac, yen, yic, o, l, kS, d, pl, ys, yk, yn, yp, yf, yo, yi, yw, ya, y1, y2, yK, yW, yL, yq, nm, nv, no, yA, lf, rt, iK, iN)) : wpY_goOn post (yma, ypo, yhe, yvm, yin, yfi, yde, yap, yas, yto, yan, yco, yti, yna, yac, yen, yic, o, l, kS, d, pl, ys, yk, yn, yp, yf, yo, yi, yw, ya, y1, y2, yK, yW, yL, yq, nm, nv, no, yA, lf, rt, iK, iN) (nI g) := by
  have eg' : (nI g).toNatClampNeg = g := nI_clamp (by omega)
  have hin : vp_in (nI g) 601 := vp_in_nI (by omega) (by omega)
  have hiq : vp_in (nI q) 40 := vp_in_nI hq (by omega)
  refine yg_pre hg eo hq ek (by omega) (fun _ => ?_) (fun e => absurd e (by omega)) (fun w => absurd w (by omega)) (fun w => absurd w (by omega))
  unfold wpY_goOnOne
  dsimp only
  rw [eg', eo, nI_clamp (show q < 2 ^ 31 by omega)]
  refine ⟨hin, hiq, nm_e ?_⟩
  refine br_t rfl ?_
  unfold wpY_goOnAll
  dsimp only
  rw [eg']
  exact ⟨hin, nm_e (br_t et (yr_tell ea hp))⟩
theorem yg_all0 {yma ypo yhe yvm : Int32} {yin : Int64} {yfi yde yap yas yto : Int32} {yan : Int64} {yco yti yna yac yen yic : Int32} {o l kS d : Nat → Int32} {pl ys : Nat → Int64} {yk yn yp yf yo : Nat → Int32} {yi : Nat → Int64} {yw ya y1 y2 : Nat → Int32} {yK : Nat → Int64} {yW : Nat → Int32} {yL : Nat → Int64} {yq nm : Nat → Int32} {nv : Nat → Int64} {no : Nat → Int32} {yA lf rt : Nat → Int64} {iK iN : Nat → Int32} {post : SY → Prop} {g q : Nat} (hg : g < 600) (eo : yo g = nI q) (hq : q < 40) (ek : yk q = nI 20) {a : Nat} (ea : yas = nI (a + 1)) {b w e f : Nat} (ha : a < 600) (et : yto = 0) (eF : ya g = nI (b + 1)) (hb : b + 10 ≤ 8200) (eW : yW g = nI w) (hw : w ≤ 10) (hd : yd_is d yan e) (e1 : y1 g = nI f) (h2 : w = 10 ∨ e = 4 → post (yma, ypo, yhe, yvm, yin, yfi, yde, yap, (nI a), 2, 0, yco, yti, yna, yac, yen, yic, o, l, kS, d, pl, ys, yk, yn, yp, yf, yo, yi, yw, ya, y1, y2, yK, yW, yL, yq, nm, nv, no, yA, lf, rt, iK, iN)) (h0 : w < 10 → e < 4 → post (yma, ypo, yhe, yvm, yin, yfi, yde, yap, (nI (a + 2)), yto, yan, yco, yti, yna, yac, yen, yic, o, l, kS, d, (vp_updL pl (b + w) yan), ys, yk, yn, yp, yf, yo, yi, yw, ya, y1, y2, yK, (upd yW g (nI (w + 1))), yL, (upd yq (a + 1) (nI f)), nm, nv, no, yA, lf, rt, iK, iN)) : wpY_goOn post (yma, ypo, yhe, yvm, yin, yfi, yde, yap, yas, yto, yan, yco, yti, yna, yac, yen, yic, o, l, kS, d, pl, ys, yk, yn, yp, yf, yo, yi, yw, ya, y1, y2, yK, yW, yL, yq, nm, nv, no, yA, lf, rt, iK, iN) (nI g) := by
  have eg' : (nI g).toNatClampNeg = g := nI_clamp (by omega)
  have hin : vp_in (nI g) 601 := vp_in_nI (by omega) (by omega)
  have hiq : vp_in (nI q) 40 := vp_in_nI hq (by omega)
  refine yg_pre hg eo hq ek (by omega) (fun _ => ?_) (fun e => absurd e (by omega)) (fun w => absurd w (by omega)) (fun w => absurd w (by omega))
  unfold wpY_goOnOne
  dsimp only
  rw [eg', eo, nI_clamp (show q < 2 ^ 31 by omega)]
  refine ⟨hin, hiq, nm_e ?_⟩
  refine br_t rfl ?_
  unfold wpY_goOnAll
  dsimp only
  rw [eg']
  rw [eF, eW, e1]
  refine ⟨hin, nm_r (nI_pred b) (br_f (by rw [et]; decide) (br_t et ⟨hin, ?_⟩))⟩
  have k56 : (w = 10 ∨ e = 4) → wY_goOnAll_56 (fun u => match u with | (yma', ypo', yhe', yvm', yin', yfi', yde', yap', yas', yto', yan', yco', yti', yna', yac', yen', yic', o', l', kS', d', pl', ys', yk', yn', yp', yf', yo', yi', yw', ya', y1', y2', yK', yW', yL', yq', nm', nv', no', yA', lf', rt', iK', iN') => post (yma', ypo', yhe', yvm', yin', yfi', yde', yap', yas', yto', yan', yco', yti', yna', yac', yen', yic', o', l', kS', d', pl', ys', yk', yn', yp', yf', yo', yi', yw', ya', y1', y2', yK', yW', yL', yq', nm', nv', no', yA', lf', rt', iK', iN')) yma ypo yhe yvm yin yfi yde yap yas yto yan yco yti yna yac yen yic o l kS d pl ys yk yn yp yf yo yi yw ya y1 y2 yK yW yL yq nm nv no yA lf rt iK iN := by
    intro z
    unfold wY_goOnAll_56
    exact yr_tell ea (h2 z)
  refine pk_eq w 10 (fun z => k56 (Or.inl z)) (fun n10 => ym_depthOf hd ?_)
  have h4 := hd.1
  refine pk_eq e 4 (fun z => k56 (Or.inr z)) (fun n4 => ?_)
  rw [nI_add, nI_clamp (show b + w < 2 ^ 31 by omega), nI_1]
  exact ⟨hin, vp_in_nI (by omega) (by omega), nm_e ⟨hin, hin, nm_e ⟨hin, yr_askAgain ea (by omega) (h0 (by omega) (by omega))⟩⟩⟩
theorem yg_all1 {yma ypo yhe yvm : Int32} {yin : Int64} {yfi yde yap yas yto : Int32} {yan : Int64} {yco yti yna yac yen yic : Int32} {o l kS d : Nat → Int32} {pl ys : Nat → Int64} {yk yn yp yf yo : Nat → Int32} {yi : Nat → Int64} {yw ya y1 y2 : Nat → Int32} {yK : Nat → Int64} {yW : Nat → Int32} {yL : Nat → Int64} {yq nm : Nat → Int32} {nv : Nat → Int64} {no : Nat → Int32} {yA lf rt : Nat → Int64} {iK iN : Nat → Int32} {post : SY → Prop} {g q : Nat} (hg : g < 600) (eo : yo g = nI q) (hq : q < 40) (ek : yk q = nI 20) {a : Nat} (ea : yas = nI (a + 1)) {b w mk : Nat} {e : Nat → Nat} (et : yto = 1) (eF : ya g = nI (b + 1)) (hb : b + 10 ≤ 8200) (eW : yW g = nI w) (hw : w ≤ 10) (em : yma = nI mk) (hm : mk < 760) (hc : ∀ i, i < w → yd_is d (pl (b + i)) (e i)) (hp : post ((nI (mk + 1)), ypo, yhe, yvm, yin, yfi, yde, yap, (nI a), 0, (yy_t 4 (nI mk)), yco, yti, yna, yac, yen, yic, (upd o mk (nI b)), (upd l mk (nI w)), (upd kS mk 0), (upd d mk (nI (vv_mx e w + 1))), pl, ys, yk, yn, yp, yf, yo, yi, yw, ya, y1, y2, yK, yW, yL, yq, nm, nv, no, yA, lf, rt, iK, iN)) : wpY_goOn post (yma, ypo, yhe, yvm, yin, yfi, yde, yap, yas, yto, yan, yco, yti, yna, yac, yen, yic, o, l, kS, d, pl, ys, yk, yn, yp, yf, yo, yi, yw, ya, y1, y2, yK, yW, yL, yq, nm, nv, no, yA, lf, rt, iK, iN) (nI g) := by
  have eg' : (nI g).toNatClampNeg = g := nI_clamp (by omega)
  have hin : vp_in (nI g) 601 := vp_in_nI (by omega) (by omega)
  have hiq : vp_in (nI q) 40 := vp_in_nI hq (by omega)
  refine yg_pre hg eo hq ek (by omega) (fun _ => ?_) (fun e => absurd e (by omega)) (fun w => absurd w (by omega)) (fun w => absurd w (by omega))
  unfold wpY_goOnOne
  dsimp only
  rw [eg', eo, nI_clamp (show q < 2 ^ 31 by omega)]
  refine ⟨hin, hiq, nm_e ?_⟩
  refine br_t rfl ?_
  unfold wpY_goOnAll
  dsimp only
  rw [eg']
  rw [eF, eW]
  refine ⟨hin, nm_r (nI_pred b) (br_f (by rw [et]; decide) (br_f (by rw [et]; decide) ⟨hin, ?_⟩))⟩
  exact ym_compose (κ := 4) (e := e) em hm (by omega) hw (by omega) hc (yr_tell ea hp)
theorem yg_try {yma ypo yhe yvm : Int32} {yin : Int64} {yfi yde yap yas yto : Int32} {yan : Int64} {yco yti yna yac yen yic : Int32} {o l kS d : Nat → Int32} {pl ys : Nat → Int64} {yk yn yp yf yo : Nat → Int32} {yi : Nat → Int64} {yw ya y1 y2 : Nat → Int32} {yK : Nat → Int64} {yW : Nat → Int32} {yL : Nat → Int64} {yq nm : Nat → Int32} {nv : Nat → Int64} {no : Nat → Int32} {yA lf rt : Nat → Int64} {iK iN : Nat → Int32} {post : SY → Prop} {g q : Nat} (hg : g < 600) (eo : yo g = nI q) (hq : q < 40) (ek : yk q = nI 21) {a : Nat} (ea : yas = nI (a + 1)) {t : Int32} (ht : (yto = 2 → t = 1) ∧ (¬ yto = 2 → t = yto)) (hp : post (yma, ypo, yhe, yvm, yin, yfi, yde, yap, (nI a), t, yan, yco, yti, yna, yac, yen, yic, o, l, kS, d, pl, ys, yk, yn, yp, yf, yo, yi, yw, ya, y1, y2, yK, yW, yL, yq, nm, nv, no, yA, lf, rt, iK, iN)) : wpY_goOn post (yma, ypo, yhe, yvm, yin, yfi, yde, yap, yas, yto, yan, yco, yti, yna, yac, yen, yic, o, l, kS, d, pl, ys, yk, yn, yp, yf, yo, yi, yw, ya, y1, y2, yK, yW, yL, yq, nm, nv, no, yA, lf, rt, iK, iN) (nI g) := by
  have eg' : (nI g).toNatClampNeg = g := nI_clamp (by omega)
  have hin : vp_in (nI g) 601 := vp_in_nI (by omega) (by omega)
  have hiq : vp_in (nI q) 40 := vp_in_nI hq (by omega)
  refine yg_pre hg eo hq ek (by omega) (fun _ => ?_) (fun e => absurd e (by omega)) (fun w => absurd w (by omega)) (fun w => absurd w (by omega))
  unfold wpY_goOnOne
  dsimp only
  rw [eg', eo, nI_clamp (show q < 2 ^ 31 by omega)]
  refine ⟨hin, hiq, nm_e ?_⟩
  refine br_f (by decide) (br_t rfl (br_c (fun z => ?_) (fun z => ?_)))
  · rw [ht.1 z] at hp
    unfold wY_goOnOne_49
    exact yr_tell ea hp
  · rw [ht.2 z] at hp
    unfold wY_goOnOne_49
    exact yr_tell ea hp
theorem yg_first {yma ypo yhe yvm : Int32} {yin : Int64} {yfi yde yap yas yto : Int32} {yan : Int64} {yco yti yna yac yen yic : Int32} {o l kS d : Nat → Int32} {pl ys : Nat → Int64} {yk yn yp yf yo : Nat → Int32} {yi : Nat → Int64} {yw ya y1 y2 : Nat → Int32} {yK : Nat → Int64} {yW : Nat → Int32} {yL : Nat → Int64} {yq nm : Nat → Int32} {nv : Nat → Int64} {no : Nat → Int32} {yA lf rt : Nat → Int64} {iK iN : Nat → Int32} {post : SY → Prop} {g q : Nat} (hg : g < 600) (eo : yo g = nI q) (hq : q < 40) (ek : yk q = nI 22) {a : Nat} (ea : yas = nI (a + 1)) {w : Nat} (eW : yW g = nI w) (h0 : yto = 0 → post (yma, ypo, yhe, yvm, yin, yfi, yde, yap, (nI a), yto, yan, yco, yti, yna, yac, yen, yic, o, l, kS, d, pl, ys, yk, yn, yp, yf, yo, yi, yw, ya, y1, y2, yK, (upd yW g (nI (w + 1))), yL, yq, nm, nv, no, yA, lf, rt, iK, iN)) (h1 : ¬ yto = 0 → post (yma, ypo, yhe, yvm, yin, yfi, yde, yap, (nI a), yto, yan, yco, yti, yna, yac, yen, yic, o, l, kS, d, pl, ys, yk, yn, yp, yf, yo, yi, yw, ya, y1, y2, yK, yW, yL, yq, nm, nv, no, yA, lf, rt, iK, iN)) : wpY_goOn post (yma, ypo, yhe, yvm, yin, yfi, yde, yap, yas, yto, yan, yco, yti, yna, yac, yen, yic, o, l, kS, d, pl, ys, yk, yn, yp, yf, yo, yi, yw, ya, y1, y2, yK, yW, yL, yq, nm, nv, no, yA, lf, rt, iK, iN) (nI g) := by
  have eg' : (nI g).toNatClampNeg = g := nI_clamp (by omega)
  have hin : vp_in (nI g) 601 := vp_in_nI (by omega) (by omega)
  have hiq : vp_in (nI q) 40 := vp_in_nI hq (by omega)
  refine yg_pre hg eo hq ek (by omega) (fun _ => ?_) (fun e => absurd e (by omega)) (fun w => absurd w (by omega)) (fun w => absurd w (by omega))
  unfold wpY_goOnOne
  dsimp only
  rw [eg', eo, nI_clamp (show q < 2 ^ 31 by omega)]
  refine ⟨hin, hiq, nm_e ?_⟩
  refine br_f (by decide) (br_f (by decide) (br_t rfl (br_c (fun z => ⟨hin, ?_⟩) (fun z => ⟨hin, ?_⟩))))
  · unfold wY_goOnOne_94
    rw [eg', eW, nI_1]
    exact ⟨hin, nm_e (yr_tell ea (h0 z))⟩
  · unfold wY_goOnOne_94
    rw [eg', up_self]
    exact ⟨hin, nm_e (yr_tell ea (h1 z))⟩
theorem yg_23e {yma ypo yhe yvm : Int32} {yin : Int64} {yfi yde yap yas yto : Int32} {yan : Int64} {yco yti yna yac yen yic : Int32} {o l kS d : Nat → Int32} {pl ys : Nat → Int64} {yk yn yp yf yo : Nat → Int32} {yi : Nat → Int64} {yw ya y1 y2 : Nat → Int32} {yK : Nat → Int64} {yW : Nat → Int32} {yL : Nat → Int64} {yq nm : Nat → Int32} {nv : Nat → Int64} {no : Nat → Int32} {yA lf rt : Nat → Int64} {iK iN : Nat → Int32} {post : SY → Prop} {g q : Nat} (hg : g < 600) (eo : yo g = nI q) (hq : q < 40) (ek : yk q = nI 23) {a : Nat} (ea : yas = nI (a + 1)) (et : ¬ yto = 0) (hp : post (yma, ypo, yhe, yvm, yin, yfi, yde, yap, (nI a), yto, 0, yco, yti, yna, yac, yen, yic, o, l, kS, d, pl, ys, yk, yn, yp, yf, yo, yi, yw, ya, y1, y2, yK, yW, yL, yq, nm, nv, no, yA, lf, rt, iK, iN)) : wpY_goOn post (yma, ypo, yhe, yvm, yin, yfi, yde, yap, yas, yto, yan, yco, yti, yna, yac, yen, yic, o, l, kS, d, pl, ys, yk, yn, yp, yf, yo, yi, yw, ya, y1, y2, yK, yW, yL, yq, nm, nv, no, yA, lf, rt, iK, iN) (nI g) := by
  have eg' : (nI g).toNatClampNeg = g := nI_clamp (by omega)
  have hin : vp_in (nI g) 601 := vp_in_nI (by omega) (by omega)
  have hiq : vp_in (nI q) 40 := vp_in_nI hq (by omega)
  refine yg_pre hg eo hq ek (by omega) (fun _ => ?_) (fun e => absurd e (by omega)) (fun w => absurd w (by omega)) (fun w => absurd w (by omega))
  unfold wpY_goOnOne
  dsimp only
  rw [eg', eo, nI_clamp (show q < 2 ^ 31 by omega)]
  refine ⟨hin, hiq, nm_e ?_⟩
  exact br_f (by decide) (br_f (by decide) (br_f (by decide) (br_f et (yr_tell ea hp))))
theorem yg_24e {yma ypo yhe yvm : Int32} {yin : Int64} {yfi yde yap yas yto : Int32} {yan : Int64} {yco yti yna yac yen yic : Int32} {o l kS d : Nat → Int32} {pl ys : Nat → Int64} {yk yn yp yf yo : Nat → Int32} {yi : Nat → Int64} {yw ya y1 y2 : Nat → Int32} {yK : Nat → Int64} {yW : Nat → Int32} {yL : Nat → Int64} {yq nm : Nat → Int32} {nv : Nat → Int64} {no : Nat → Int32} {yA lf rt : Nat → Int64} {iK iN : Nat → Int32} {post : SY → Prop} {g q : Nat} (hg : g < 600) (eo : yo g = nI q) (hq : q < 40) (ek : yk q = nI 24) {a : Nat} (ea : yas = nI (a + 1)) (et : ¬ yto = 0) (hp : post (yma, ypo, yhe, yvm, yin, yfi, yde, yap, (nI a), yto, 0, yco, yti, yna, yac, yen, yic, o, l, kS, d, pl, ys, yk, yn, yp, yf, yo, yi, yw, ya, y1, y2, yK, yW, yL, yq, nm, nv, no, yA, lf, rt, iK, iN)) : wpY_goOn post (yma, ypo, yhe, yvm, yin, yfi, yde, yap, yas, yto, yan, yco, yti, yna, yac, yen, yic, o, l, kS, d, pl, ys, yk, yn, yp, yf, yo, yi, yw, ya, y1, y2, yK, yW, yL, yq, nm, nv, no, yA, lf, rt, iK, iN) (nI g) := by
  have eg' : (nI g).toNatClampNeg = g := nI_clamp (by omega)
  have hin : vp_in (nI g) 601 := vp_in_nI (by omega) (by omega)
  have hiq : vp_in (nI q) 40 := vp_in_nI hq (by omega)
  refine yg_pre hg eo hq ek (by omega) (fun _ => ?_) (fun e => absurd e (by omega)) (fun w => absurd w (by omega)) (fun w => absurd w (by omega))
  unfold wpY_goOnOne
  dsimp only
  rw [eg', eo, nI_clamp (show q < 2 ^ 31 by omega)]
  refine ⟨hin, hiq, nm_e ?_⟩
  exact br_f (by decide) (br_f (by decide) (br_f (by decide) (br_f et (yr_tell ea hp))))
theorem yg_keep {yma ypo yhe yvm : Int32} {yin : Int64} {yfi yde yap yas yto : Int32} {yan : Int64} {yco yti yna yac yen yic : Int32} {o l kS d : Nat → Int32} {pl ys : Nat → Int64} {yk yn yp yf yo : Nat → Int32} {yi : Nat → Int64} {yw ya y1 y2 : Nat → Int32} {yK : Nat → Int64} {yW : Nat → Int32} {yL : Nat → Int64} {yq nm : Nat → Int32} {nv : Nat → Int64} {no : Nat → Int32} {yA lf rt : Nat → Int64} {iK iN : Nat → Int32} {post : SY → Prop} {g q : Nat} (hg : g < 600) (eo : yo g = nI q) (hq : q < 40) (ek : yk q = nI 23) {a : Nat} (ea : yas = nI (a + 1)) {f κ : Nat} {x : Int32} (ha : a < 600) (et : yto = 0) (ew : yan = yy_t κ x) (hκ : κ ≤ 5) (e1 : y1 g = nI f) (h0 : 2 ≤ κ → post (yma, ypo, yhe, yvm, yin, yfi, yde, yap, (nI a), 0, (yi g), yco, yti, yna, yac, yen, yic, o, l, kS, d, pl, ys, yk, yn, yp, yf, yo, yi, yw, ya, y1, y2, yK, yW, yL, yq, nm, nv, no, yA, lf, rt, iK, iN)) (h1 : κ < 2 → post (yma, ypo, yhe, yvm, yin, yfi, yde, yap, (nI (a + 2)), yto, yan, yco, yti, yna, yac, yen, yic, o, l, kS, d, pl, ys, yk, yn, yp, yf, yo, yi, yw, ya, y1, y2, yK, yW, yL, (upd yq (a + 1) (nI f)), nm, nv, no, yA, lf, rt, iK, iN)) : wpY_goOn post (yma, ypo, yhe, yvm, yin, yfi, yde, yap, yas, yto, yan, yco, yti, yna, yac, yen, yic, o, l, kS, d, pl, ys, yk, yn, yp, yf, yo, yi, yw, ya, y1, y2, yK, yW, yL, yq, nm, nv, no, yA, lf, rt, iK, iN) (nI g) := by
  have eg' : (nI g).toNatClampNeg = g := nI_clamp (by omega)
  have hin : vp_in (nI g) 601 := vp_in_nI (by omega) (by omega)
  have hiq : vp_in (nI q) 40 := vp_in_nI hq (by omega)
  refine yg_pre hg eo hq ek (by omega) (fun _ => ?_) (fun e => absurd e (by omega)) (fun w => absurd w (by omega)) (fun w => absurd w (by omega))
  unfold wpY_goOnOne
  dsimp only
  rw [eg', eo, nI_clamp (show q < 2 ^ 31 by omega)]
  refine ⟨hin, hiq, nm_e ?_⟩
  rw [e1]
  refine br_f (by decide) (br_f (by decide) (br_f (by decide) (br_t et (br_t rfl ?_))))
  rw [ew]
  rw [ew] at h1
  exact ym_isEmpty (by omega) (fun w => br_t rfl ⟨hin, yr_tell ea (h0 w)⟩) (fun w => br_f (by decide) ⟨hin, yr_askAgain ea (by omega) (h1 w)⟩)
theorem yg_make {yma ypo yhe yvm : Int32} {yin : Int64} {yfi yde yap yas yto : Int32} {yan : Int64} {yco yti yna yac yen yic : Int32} {o l kS d : Nat → Int32} {pl ys : Nat → Int64} {yk yn yp yf yo : Nat → Int32} {yi : Nat → Int64} {yw ya y1 y2 : Nat → Int32} {yK : Nat → Int64} {yW : Nat → Int32} {yL : Nat → Int64} {yq nm : Nat → Int32} {nv : Nat → Int64} {no : Nat → Int32} {yA lf rt : Nat → Int64} {iK iN : Nat → Int32} {post : SY → Prop} {g q : Nat} (hg : g < 600) (eo : yo g = nI q) (hq : q < 40) (ek : yk q = nI 24) {a : Nat} (ea : yas = nI (a + 1)) {c e pd mk x : Nat} (et : yto = 0) (ec : yco = nI c) (hc : c ≤ 600) (hd : yd_is d yan e) (ep : ypo = nI pd) (hpd : pd + 1 ≤ 8200) (em : yma = nI mk) (hm : mk < 760) (eX : yn q = nI x) (hx : x < 8) (ht : c = 600 → post (yma, ypo, yhe, yvm, yin, yfi, yde, yap, yas, yto, yan, yco, 1, yna, yac, yen, yic, o, l, kS, d, pl, ys, yk, yn, yp, yf, yo, yi, yw, ya, y1, y2, yK, yW, yL, yq, nm, nv, no, yA, lf, rt, iK, iN)) (h2 : c < 600 → e = 4 → post (yma, ypo, yhe, yvm, yin, yfi, yde, yap, (nI a), 2, 0, (nI (c + 1)), yti, yna, yac, yen, yic, o, l, kS, d, pl, ys, yk, yn, yp, yf, yo, yi, yw, ya, y1, y2, yK, yW, yL, yq, nm, nv, no, yA, lf, rt, iK, iN)) (h0 : c < 600 → e < 4 → post ((nI (mk + 1)), (nI (pd + 1)), yhe, yvm, yin, yfi, yde, yap, (nI a), 0, (yy_t 5 (nI mk)), (nI (c + 1)), yti, yna, yac, yen, yic, (upd o mk (nI pd)), (upd l mk (nI 1)), (upd kS mk (nI (2 ^ x))), (upd d mk (nI (e + 1))), (vp_updL pl pd yan), ys, yk, yn, yp, yf, yo, yi, yw, ya, y1, y2, yK, yW, yL, yq, nm, nv, no, yA, lf, rt, iK, iN)) : wpY_goOn post (yma, ypo, yhe, yvm, yin, yfi, yde, yap, yas, yto, yan, yco, yti, yna, yac, yen, yic, o, l, kS, d, pl, ys, yk, yn, yp, yf, yo, yi, yw, ya, y1, y2, yK, yW, yL, yq, nm, nv, no, yA, lf, rt, iK, iN) (nI g) := by
  have eg' : (nI g).toNatClampNeg = g := nI_clamp (by omega)
  have hin : vp_in (nI g) 601 := vp_in_nI (by omega) (by omega)
  have hiq : vp_in (nI q) 40 := vp_in_nI hq (by omega)
  refine yg_pre hg eo hq ek (by omega) (fun _ => ?_) (fun e => absurd e (by omega)) (fun w => absurd w (by omega)) (fun w => absurd w (by omega))
  unfold wpY_goOnOne
  dsimp only
  rw [eg', eo, nI_clamp (show q < 2 ^ 31 by omega)]
  refine ⟨hin, hiq, nm_e ?_⟩
  refine br_f (by decide) (br_f (by decide) (br_f (by decide) (br_t et (br_f (by decide) ?_))))
  by_cases c6 : c = 600
  · subst c6
    exact yr_tired ec (br_t rfl (ht rfl))
  refine yr_count ec (by omega) ?_
  dsimp only
  refine br_f (by decide) (ym_depthOf hd ?_)
  have h4 := hd.1
  refine pk_eq e 4 (fun z => yr_tell ea (h2 (by omega) z)) (fun n4 => ?_)
  rw [ep, nI_clamp (show pd < 2 ^ 31 by omega), eX, xk_1shl hx]
  refine ⟨vp_in_nI (by omega) (by omega), nm_e (nm_r (nI_1 pd) ?_)⟩
  rw [nI_pred]
  refine ym_compose (κ := 5) (b := 1) (e := fun _ => e) em hm (by omega) (by omega) hpd (fun i hi => ?_) ?_
  · have : i = 0 := by omega
    subst this
    rw [Nat.add_zero, pk_uLs]
    exact hd
  · have hmx : vv_mx (fun _ => e) 1 = e := by
      show (if 0 < e then e else 0) = e
      split <;> omega
    rw [hmx]
    exact yr_tell ea (h0 (by omega) (by omega))
theorem yf_30e {yma ypo yhe yvm : Int32} {yin : Int64} {yfi yde yap yas yto : Int32} {yan : Int64} {yco yti yna yac yen yic : Int32} {o l kS d : Nat → Int32} {pl ys : Nat → Int64} {yk yn yp yf yo : Nat → Int32} {yi : Nat → Int64} {yw ya y1 y2 : Nat → Int32} {yK : Nat → Int64} {yW : Nat → Int32} {yL : Nat → Int64} {yq nm : Nat → Int32} {nv : Nat → Int64} {no : Nat → Int32} {yA lf rt : Nat → Int64} {iK iN : Nat → Int32} {post : SY → Prop} {g q : Nat} (hg : g < 600) (eo : yo g = nI q) (hq : q < 40) (ek : yk q = nI 30) (e2 : y2 g = -1) {a : Nat} (ea : yas = nI (a + 1)) (et : ¬ yto = 0) (hp : post (yma, ypo, yhe, yvm, yin, yfi, yde, yap, (nI a), yto, 0, yco, yti, yna, yac, yen, yic, o, l, kS, d, pl, ys, yk, yn, yp, yf, yo, yi, yw, ya, y1, y2, yK, yW, yL, yq, nm, nv, no, yA, lf, rt, iK, iN)) : wpY_goOn post (yma, ypo, yhe, yvm, yin, yfi, yde, yap, yas, yto, yan, yco, yti, yna, yac, yen, yic, o, l, kS, d, pl, ys, yk, yn, yp, yf, yo, yi, yw, ya, y1, y2, yK, yW, yL, yq, nm, nv, no, yA, lf, rt, iK, iN) (nI g) := by
  have eg' : (nI g).toNatClampNeg = g := nI_clamp (by omega)
  have hin : vp_in (nI g) 601 := vp_in_nI (by omega) (by omega)
  have hiq : vp_in (nI q) 40 := vp_in_nI hq (by omega)
  refine yg_pre hg eo hq ek (by omega) (fun w => absurd w (by omega)) (fun e => absurd e (by omega)) (fun _ _ _ => ?_) (fun _ _ w => absurd (by rw [e2]; decide) w)
  unfold wpY_goOnFirst
  dsimp only
  rw [eg', eo, nI_clamp (show q < 2 ^ 31 by omega)]
  refine ⟨hin, nm_e ⟨hin, hiq, nm_e ?_⟩⟩
  exact br_f (by decide) (br_f (by decide) (br_f et (yr_tell ea hp)))
theorem yf_32e {yma ypo yhe yvm : Int32} {yin : Int64} {yfi yde yap yas yto : Int32} {yan : Int64} {yco yti yna yac yen yic : Int32} {o l kS d : Nat → Int32} {pl ys : Nat → Int64} {yk yn yp yf yo : Nat → Int32} {yi : Nat → Int64} {yw ya y1 y2 : Nat → Int32} {yK : Nat → Int64} {yW : Nat → Int32} {yL : Nat → Int64} {yq nm : Nat → Int32} {nv : Nat → Int64} {no : Nat → Int32} {yA lf rt : Nat → Int64} {iK iN : Nat → Int32} {post : SY → Prop} {g q : Nat} (hg : g < 600) (eo : yo g = nI q) (hq : q < 40) (ek : yk q = nI 32) (e2 : y2 g = -1) {a : Nat} (ea : yas = nI (a + 1)) (et : ¬ yto = 0) (hp : post (yma, ypo, yhe, yvm, yin, yfi, yde, yap, (nI a), yto, 0, yco, yti, yna, yac, yen, yic, o, l, kS, d, pl, ys, yk, yn, yp, yf, yo, yi, yw, ya, y1, y2, yK, yW, yL, yq, nm, nv, no, yA, lf, rt, iK, iN)) : wpY_goOn post (yma, ypo, yhe, yvm, yin, yfi, yde, yap, yas, yto, yan, yco, yti, yna, yac, yen, yic, o, l, kS, d, pl, ys, yk, yn, yp, yf, yo, yi, yw, ya, y1, y2, yK, yW, yL, yq, nm, nv, no, yA, lf, rt, iK, iN) (nI g) := by
  have eg' : (nI g).toNatClampNeg = g := nI_clamp (by omega)
  have hin : vp_in (nI g) 601 := vp_in_nI (by omega) (by omega)
  have hiq : vp_in (nI q) 40 := vp_in_nI hq (by omega)
  refine yg_pre hg eo hq ek (by omega) (fun w => absurd w (by omega)) (fun e => absurd e (by omega)) (fun _ _ _ => ?_) (fun _ _ w => absurd (by rw [e2]; decide) w)
  unfold wpY_goOnFirst
  dsimp only
  rw [eg', eo, nI_clamp (show q < 2 ^ 31 by omega)]
  refine ⟨hin, nm_e ⟨hin, hiq, nm_e ?_⟩⟩
  exact br_f (by decide) (br_f (by decide) (br_f et (yr_tell ea hp)))
theorem yf_33e {yma ypo yhe yvm : Int32} {yin : Int64} {yfi yde yap yas yto : Int32} {yan : Int64} {yco yti yna yac yen yic : Int32} {o l kS d : Nat → Int32} {pl ys : Nat → Int64} {yk yn yp yf yo : Nat → Int32} {yi : Nat → Int64} {yw ya y1 y2 : Nat → Int32} {yK : Nat → Int64} {yW : Nat → Int32} {yL : Nat → Int64} {yq nm : Nat → Int32} {nv : Nat → Int64} {no : Nat → Int32} {yA lf rt : Nat → Int64} {iK iN : Nat → Int32} {post : SY → Prop} {g q : Nat} (hg : g < 600) (eo : yo g = nI q) (hq : q < 40) (ek : yk q = nI 33) (e2 : y2 g = -1) {a : Nat} (ea : yas = nI (a + 1)) (et : ¬ yto = 0) (hp : post (yma, ypo, yhe, yvm, yin, yfi, yde, yap, (nI a), yto, 0, yco, yti, yna, yac, yen, yic, o, l, kS, d, pl, ys, yk, yn, yp, yf, yo, yi, yw, ya, y1, y2, yK, yW, yL, yq, nm, nv, no, yA, lf, rt, iK, iN)) : wpY_goOn post (yma, ypo, yhe, yvm, yin, yfi, yde, yap, yas, yto, yan, yco, yti, yna, yac, yen, yic, o, l, kS, d, pl, ys, yk, yn, yp, yf, yo, yi, yw, ya, y1, y2, yK, yW, yL, yq, nm, nv, no, yA, lf, rt, iK, iN) (nI g) := by
  have eg' : (nI g).toNatClampNeg = g := nI_clamp (by omega)
  have hin : vp_in (nI g) 601 := vp_in_nI (by omega) (by omega)
  have hiq : vp_in (nI q) 40 := vp_in_nI hq (by omega)
  refine yg_pre hg eo hq ek (by omega) (fun w => absurd w (by omega)) (fun e => absurd e (by omega)) (fun _ _ _ => ?_) (fun _ _ w => absurd (by rw [e2]; decide) w)
  unfold wpY_goOnFirst
  dsimp only
  rw [eg', eo, nI_clamp (show q < 2 ^ 31 by omega)]
  refine ⟨hin, nm_e ⟨hin, hiq, nm_e ?_⟩⟩
  exact br_f (by decide) (br_f (by decide) (br_f et (yr_tell ea hp)))
theorem yf_34e {yma ypo yhe yvm : Int32} {yin : Int64} {yfi yde yap yas yto : Int32} {yan : Int64} {yco yti yna yac yen yic : Int32} {o l kS d : Nat → Int32} {pl ys : Nat → Int64} {yk yn yp yf yo : Nat → Int32} {yi : Nat → Int64} {yw ya y1 y2 : Nat → Int32} {yK : Nat → Int64} {yW : Nat → Int32} {yL : Nat → Int64} {yq nm : Nat → Int32} {nv : Nat → Int64} {no : Nat → Int32} {yA lf rt : Nat → Int64} {iK iN : Nat → Int32} {post : SY → Prop} {g q : Nat} (hg : g < 600) (eo : yo g = nI q) (hq : q < 40) (ek : yk q = nI 34) (e2 : y2 g = -1) {a : Nat} (ea : yas = nI (a + 1)) (et : ¬ yto = 0) (hp : post (yma, ypo, yhe, yvm, yin, yfi, yde, yap, (nI a), yto, 0, yco, yti, yna, yac, yen, yic, o, l, kS, d, pl, ys, yk, yn, yp, yf, yo, yi, yw, ya, y1, y2, yK, yW, yL, yq, nm, nv, no, yA, lf, rt, iK, iN)) : wpY_goOn post (yma, ypo, yhe, yvm, yin, yfi, yde, yap, yas, yto, yan, yco, yti, yna, yac, yen, yic, o, l, kS, d, pl, ys, yk, yn, yp, yf, yo, yi, yw, ya, y1, y2, yK, yW, yL, yq, nm, nv, no, yA, lf, rt, iK, iN) (nI g) := by
  have eg' : (nI g).toNatClampNeg = g := nI_clamp (by omega)
  have hin : vp_in (nI g) 601 := vp_in_nI (by omega) (by omega)
  have hiq : vp_in (nI q) 40 := vp_in_nI hq (by omega)
  refine yg_pre hg eo hq ek (by omega) (fun w => absurd w (by omega)) (fun e => absurd e (by omega)) (fun _ _ _ => ?_) (fun _ _ w => absurd (by rw [e2]; decide) w)
  unfold wpY_goOnFirst
  dsimp only
  rw [eg', eo, nI_clamp (show q < 2 ^ 31 by omega)]
  refine ⟨hin, nm_e ⟨hin, hiq, nm_e ?_⟩⟩
  exact br_f (by decide) (br_f (by decide) (br_f et (yr_tell ea hp)))
theorem yf_35e {yma ypo yhe yvm : Int32} {yin : Int64} {yfi yde yap yas yto : Int32} {yan : Int64} {yco yti yna yac yen yic : Int32} {o l kS d : Nat → Int32} {pl ys : Nat → Int64} {yk yn yp yf yo : Nat → Int32} {yi : Nat → Int64} {yw ya y1 y2 : Nat → Int32} {yK : Nat → Int64} {yW : Nat → Int32} {yL : Nat → Int64} {yq nm : Nat → Int32} {nv : Nat → Int64} {no : Nat → Int32} {yA lf rt : Nat → Int64} {iK iN : Nat → Int32} {post : SY → Prop} {g q : Nat} (hg : g < 600) (eo : yo g = nI q) (hq : q < 40) (ek : yk q = nI 35) (e2 : y2 g = -1) {a : Nat} (ea : yas = nI (a + 1)) (et : ¬ yto = 0) (hp : post (yma, ypo, yhe, yvm, yin, yfi, yde, yap, (nI a), yto, 0, yco, yti, yna, yac, yen, yic, o, l, kS, d, pl, ys, yk, yn, yp, yf, yo, yi, yw, ya, y1, y2, yK, yW, yL, yq, nm, nv, no, yA, lf, rt, iK, iN)) : wpY_goOn post (yma, ypo, yhe, yvm, yin, yfi, yde, yap, yas, yto, yan, yco, yti, yna, yac, yen, yic, o, l, kS, d, pl, ys, yk, yn, yp, yf, yo, yi, yw, ya, y1, y2, yK, yW, yL, yq, nm, nv, no, yA, lf, rt, iK, iN) (nI g) := by
  have eg' : (nI g).toNatClampNeg = g := nI_clamp (by omega)
  have hin : vp_in (nI g) 601 := vp_in_nI (by omega) (by omega)
  have hiq : vp_in (nI q) 40 := vp_in_nI hq (by omega)
  refine yg_pre hg eo hq ek (by omega) (fun w => absurd w (by omega)) (fun e => absurd e (by omega)) (fun _ _ _ => ?_) (fun _ _ w => absurd (by rw [e2]; decide) w)
  unfold wpY_goOnFirst
  dsimp only
  rw [eg', eo, nI_clamp (show q < 2 ^ 31 by omega)]
  refine ⟨hin, nm_e ⟨hin, hiq, nm_e ?_⟩⟩
  exact br_f (by decide) (br_f (by decide) (br_f et (yr_tell ea hp)))
theorem yf_36e {yma ypo yhe yvm : Int32} {yin : Int64} {yfi yde yap yas yto : Int32} {yan : Int64} {yco yti yna yac yen yic : Int32} {o l kS d : Nat → Int32} {pl ys : Nat → Int64} {yk yn yp yf yo : Nat → Int32} {yi : Nat → Int64} {yw ya y1 y2 : Nat → Int32} {yK : Nat → Int64} {yW : Nat → Int32} {yL : Nat → Int64} {yq nm : Nat → Int32} {nv : Nat → Int64} {no : Nat → Int32} {yA lf rt : Nat → Int64} {iK iN : Nat → Int32} {post : SY → Prop} {g q : Nat} (hg : g < 600) (eo : yo g = nI q) (hq : q < 40) (ek : yk q = nI 36) (e2 : y2 g = -1) {a : Nat} (ea : yas = nI (a + 1)) (et : ¬ yto = 0) (hp : post (yma, ypo, yhe, yvm, yin, yfi, yde, yap, (nI a), yto, 0, yco, yti, yna, yac, yen, yic, o, l, kS, d, pl, ys, yk, yn, yp, yf, yo, yi, yw, ya, y1, y2, yK, yW, yL, yq, nm, nv, no, yA, lf, rt, iK, iN)) : wpY_goOn post (yma, ypo, yhe, yvm, yin, yfi, yde, yap, yas, yto, yan, yco, yti, yna, yac, yen, yic, o, l, kS, d, pl, ys, yk, yn, yp, yf, yo, yi, yw, ya, y1, y2, yK, yW, yL, yq, nm, nv, no, yA, lf, rt, iK, iN) (nI g) := by
  have eg' : (nI g).toNatClampNeg = g := nI_clamp (by omega)
  have hin : vp_in (nI g) 601 := vp_in_nI (by omega) (by omega)
  have hiq : vp_in (nI q) 40 := vp_in_nI hq (by omega)
  refine yg_pre hg eo hq ek (by omega) (fun w => absurd w (by omega)) (fun e => absurd e (by omega)) (fun _ _ _ => ?_) (fun _ _ w => absurd (by rw [e2]; decide) w)
  unfold wpY_goOnFirst
  dsimp only
  rw [eg', eo, nI_clamp (show q < 2 ^ 31 by omega)]
  refine ⟨hin, nm_e ⟨hin, hiq, nm_e ?_⟩⟩
  exact br_f (by decide) (br_f (by decide) (br_f et (yr_tell ea hp)))
theorem yf_37e {yma ypo yhe yvm : Int32} {yin : Int64} {yfi yde yap yas yto : Int32} {yan : Int64} {yco yti yna yac yen yic : Int32} {o l kS d : Nat → Int32} {pl ys : Nat → Int64} {yk yn yp yf yo : Nat → Int32} {yi : Nat → Int64} {yw ya y1 y2 : Nat → Int32} {yK : Nat → Int64} {yW : Nat → Int32} {yL : Nat → Int64} {yq nm : Nat → Int32} {nv : Nat → Int64} {no : Nat → Int32} {yA lf rt : Nat → Int64} {iK iN : Nat → Int32} {post : SY → Prop} {g q : Nat} (hg : g < 600) (eo : yo g = nI q) (hq : q < 40) (ek : yk q = nI 37) (e2 : y2 g = -1) {a : Nat} (ea : yas = nI (a + 1)) (et : ¬ yto = 0) (hp : post (yma, ypo, yhe, yvm, yin, yfi, yde, yap, (nI a), yto, 0, yco, yti, yna, yac, yen, yic, o, l, kS, d, pl, ys, yk, yn, yp, yf, yo, yi, yw, ya, y1, y2, yK, yW, yL, yq, nm, nv, no, yA, lf, rt, iK, iN)) : wpY_goOn post (yma, ypo, yhe, yvm, yin, yfi, yde, yap, yas, yto, yan, yco, yti, yna, yac, yen, yic, o, l, kS, d, pl, ys, yk, yn, yp, yf, yo, yi, yw, ya, y1, y2, yK, yW, yL, yq, nm, nv, no, yA, lf, rt, iK, iN) (nI g) := by
  have eg' : (nI g).toNatClampNeg = g := nI_clamp (by omega)
  have hin : vp_in (nI g) 601 := vp_in_nI (by omega) (by omega)
  have hiq : vp_in (nI q) 40 := vp_in_nI hq (by omega)
  refine yg_pre hg eo hq ek (by omega) (fun w => absurd w (by omega)) (fun e => absurd e (by omega)) (fun _ _ _ => ?_) (fun _ _ w => absurd (by rw [e2]; decide) w)
  unfold wpY_goOnFirst
  dsimp only
  rw [eg', eo, nI_clamp (show q < 2 ^ 31 by omega)]
  refine ⟨hin, nm_e ⟨hin, hiq, nm_e ?_⟩⟩
  exact br_f (by decide) (br_f (by decide) (br_f et (yr_tell ea hp)))
theorem yf_38e {yma ypo yhe yvm : Int32} {yin : Int64} {yfi yde yap yas yto : Int32} {yan : Int64} {yco yti yna yac yen yic : Int32} {o l kS d : Nat → Int32} {pl ys : Nat → Int64} {yk yn yp yf yo : Nat → Int32} {yi : Nat → Int64} {yw ya y1 y2 : Nat → Int32} {yK : Nat → Int64} {yW : Nat → Int32} {yL : Nat → Int64} {yq nm : Nat → Int32} {nv : Nat → Int64} {no : Nat → Int32} {yA lf rt : Nat → Int64} {iK iN : Nat → Int32} {post : SY → Prop} {g q : Nat} (hg : g < 600) (eo : yo g = nI q) (hq : q < 40) (ek : yk q = nI 38) (e2 : y2 g = -1) {a : Nat} (ea : yas = nI (a + 1)) (et : ¬ yto = 0) (hp : post (yma, ypo, yhe, yvm, yin, yfi, yde, yap, (nI a), yto, 0, yco, yti, yna, yac, yen, yic, o, l, kS, d, pl, ys, yk, yn, yp, yf, yo, yi, yw, ya, y1, y2, yK, yW, yL, yq, nm, nv, no, yA, lf, rt, iK, iN)) : wpY_goOn post (yma, ypo, yhe, yvm, yin, yfi, yde, yap, yas, yto, yan, yco, yti, yna, yac, yen, yic, o, l, kS, d, pl, ys, yk, yn, yp, yf, yo, yi, yw, ya, y1, y2, yK, yW, yL, yq, nm, nv, no, yA, lf, rt, iK, iN) (nI g) := by
  have eg' : (nI g).toNatClampNeg = g := nI_clamp (by omega)
  have hin : vp_in (nI g) 601 := vp_in_nI (by omega) (by omega)
  have hiq : vp_in (nI q) 40 := vp_in_nI hq (by omega)
  refine yg_pre hg eo hq ek (by omega) (fun w => absurd w (by omega)) (fun e => absurd e (by omega)) (fun _ _ _ => ?_) (fun _ _ w => absurd (by rw [e2]; decide) w)
  unfold wpY_goOnFirst
  dsimp only
  rw [eg', eo, nI_clamp (show q < 2 ^ 31 by omega)]
  refine ⟨hin, nm_e ⟨hin, hiq, nm_e ?_⟩⟩
  exact br_f (by decide) (br_f (by decide) (br_f et (yr_tell ea hp)))
theorem yf_39e {yma ypo yhe yvm : Int32} {yin : Int64} {yfi yde yap yas yto : Int32} {yan : Int64} {yco yti yna yac yen yic : Int32} {o l kS d : Nat → Int32} {pl ys : Nat → Int64} {yk yn yp yf yo : Nat → Int32} {yi : Nat → Int64} {yw ya y1 y2 : Nat → Int32} {yK : Nat → Int64} {yW : Nat → Int32} {yL : Nat → Int64} {yq nm : Nat → Int32} {nv : Nat → Int64} {no : Nat → Int32} {yA lf rt : Nat → Int64} {iK iN : Nat → Int32} {post : SY → Prop} {g q : Nat} (hg : g < 600) (eo : yo g = nI q) (hq : q < 40) (ek : yk q = nI 39) (e2 : y2 g = -1) {a : Nat} (ea : yas = nI (a + 1)) (et : ¬ yto = 0) (hp : post (yma, ypo, yhe, yvm, yin, yfi, yde, yap, (nI a), yto, 0, yco, yti, yna, yac, yen, yic, o, l, kS, d, pl, ys, yk, yn, yp, yf, yo, yi, yw, ya, y1, y2, yK, yW, yL, yq, nm, nv, no, yA, lf, rt, iK, iN)) : wpY_goOn post (yma, ypo, yhe, yvm, yin, yfi, yde, yap, yas, yto, yan, yco, yti, yna, yac, yen, yic, o, l, kS, d, pl, ys, yk, yn, yp, yf, yo, yi, yw, ya, y1, y2, yK, yW, yL, yq, nm, nv, no, yA, lf, rt, iK, iN) (nI g) := by
  have eg' : (nI g).toNatClampNeg = g := nI_clamp (by omega)
  have hin : vp_in (nI g) 601 := vp_in_nI (by omega) (by omega)
  have hiq : vp_in (nI q) 40 := vp_in_nI hq (by omega)
  refine yg_pre hg eo hq ek (by omega) (fun w => absurd w (by omega)) (fun e => absurd e (by omega)) (fun _ _ _ => ?_) (fun _ _ w => absurd (by rw [e2]; decide) w)
  unfold wpY_goOnFirst
  dsimp only
  rw [eg', eo, nI_clamp (show q < 2 ^ 31 by omega)]
  refine ⟨hin, nm_e ⟨hin, hiq, nm_e ?_⟩⟩
  exact br_f (by decide) (br_f (by decide) (br_f et (yr_tell ea hp)))
theorem yf_40e {yma ypo yhe yvm : Int32} {yin : Int64} {yfi yde yap yas yto : Int32} {yan : Int64} {yco yti yna yac yen yic : Int32} {o l kS d : Nat → Int32} {pl ys : Nat → Int64} {yk yn yp yf yo : Nat → Int32} {yi : Nat → Int64} {yw ya y1 y2 : Nat → Int32} {yK : Nat → Int64} {yW : Nat → Int32} {yL : Nat → Int64} {yq nm : Nat → Int32} {nv : Nat → Int64} {no : Nat → Int32} {yA lf rt : Nat → Int64} {iK iN : Nat → Int32} {post : SY → Prop} {g q : Nat} (hg : g < 600) (eo : yo g = nI q) (hq : q < 40) (ek : yk q = nI 40) (e2 : y2 g = -1) {a : Nat} (ea : yas = nI (a + 1)) (et : ¬ yto = 0) (hp : post (yma, ypo, yhe, yvm, yin, yfi, yde, yap, (nI a), yto, 0, yco, yti, yna, yac, yen, yic, o, l, kS, d, pl, ys, yk, yn, yp, yf, yo, yi, yw, ya, y1, y2, yK, yW, yL, yq, nm, nv, no, yA, lf, rt, iK, iN)) : wpY_goOn post (yma, ypo, yhe, yvm, yin, yfi, yde, yap, yas, yto, yan, yco, yti, yna, yac, yen, yic, o, l, kS, d, pl, ys, yk, yn, yp, yf, yo, yi, yw, ya, y1, y2, yK, yW, yL, yq, nm, nv, no, yA, lf, rt, iK, iN) (nI g) := by
  have eg' : (nI g).toNatClampNeg = g := nI_clamp (by omega)
  have hin : vp_in (nI g) 601 := vp_in_nI (by omega) (by omega)
  have hiq : vp_in (nI q) 40 := vp_in_nI hq (by omega)
  refine yg_pre hg eo hq ek (by omega) (fun w => absurd w (by omega)) (fun e => absurd e (by omega)) (fun _ _ _ => ?_) (fun _ _ w => absurd (by rw [e2]; decide) w)
  unfold wpY_goOnFirst
  dsimp only
  rw [eg', eo, nI_clamp (show q < 2 ^ 31 by omega)]
  refine ⟨hin, nm_e ⟨hin, hiq, nm_e ?_⟩⟩
  exact br_f (by decide) (br_f (by decide) (br_f et (yr_tell ea hp)))
theorem yf_42e {yma ypo yhe yvm : Int32} {yin : Int64} {yfi yde yap yas yto : Int32} {yan : Int64} {yco yti yna yac yen yic : Int32} {o l kS d : Nat → Int32} {pl ys : Nat → Int64} {yk yn yp yf yo : Nat → Int32} {yi : Nat → Int64} {yw ya y1 y2 : Nat → Int32} {yK : Nat → Int64} {yW : Nat → Int32} {yL : Nat → Int64} {yq nm : Nat → Int32} {nv : Nat → Int64} {no : Nat → Int32} {yA lf rt : Nat → Int64} {iK iN : Nat → Int32} {post : SY → Prop} {g q : Nat} (hg : g < 600) (eo : yo g = nI q) (hq : q < 40) (ek : yk q = nI 42) (e2 : y2 g = -1) {a : Nat} (ea : yas = nI (a + 1)) (et : ¬ yto = 0) (hp : post (yma, ypo, yhe, yvm, yin, yfi, yde, yap, (nI a), yto, 0, yco, yti, yna, yac, yen, yic, o, l, kS, d, pl, ys, yk, yn, yp, yf, yo, yi, yw, ya, y1, y2, yK, yW, yL, yq, nm, nv, no, yA, lf, rt, iK, iN)) : wpY_goOn post (yma, ypo, yhe, yvm, yin, yfi, yde, yap, yas, yto, yan, yco, yti, yna, yac, yen, yic, o, l, kS, d, pl, ys, yk, yn, yp, yf, yo, yi, yw, ya, y1, y2, yK, yW, yL, yq, nm, nv, no, yA, lf, rt, iK, iN) (nI g) := by
  have eg' : (nI g).toNatClampNeg = g := nI_clamp (by omega)
  have hin : vp_in (nI g) 601 := vp_in_nI (by omega) (by omega)
  have hiq : vp_in (nI q) 40 := vp_in_nI hq (by omega)
  refine yg_pre hg eo hq ek (by omega) (fun w => absurd w (by omega)) (fun e => absurd e (by omega)) (fun _ _ _ => ?_) (fun _ _ w => absurd (by rw [e2]; decide) w)
  unfold wpY_goOnFirst
  dsimp only
  rw [eg', eo, nI_clamp (show q < 2 ^ 31 by omega)]
  refine ⟨hin, nm_e ⟨hin, hiq, nm_e ?_⟩⟩
  exact br_f (by decide) (br_f (by decide) (br_f et (yr_tell ea hp)))
theorem yf_50e {yma ypo yhe yvm : Int32} {yin : Int64} {yfi yde yap yas yto : Int32} {yan : Int64} {yco yti yna yac yen yic : Int32} {o l kS d : Nat → Int32} {pl ys : Nat → Int64} {yk yn yp yf yo : Nat → Int32} {yi : Nat → Int64} {yw ya y1 y2 : Nat → Int32} {yK : Nat → Int64} {yW : Nat → Int32} {yL : Nat → Int64} {yq nm : Nat → Int32} {nv : Nat → Int64} {no : Nat → Int32} {yA lf rt : Nat → Int64} {iK iN : Nat → Int32} {post : SY → Prop} {g q : Nat} (hg : g < 600) (eo : yo g = nI q) (hq : q < 40) (ek : yk q = nI 50) (e2 : y2 g = -1) {a : Nat} (ea : yas = nI (a + 1)) (et : ¬ yto = 0) (hp : post (yma, ypo, yhe, yvm, yin, yfi, yde, yap, (nI a), yto, 0, yco, yti, yna, yac, yen, yic, o, l, kS, d, pl, ys, yk, yn, yp, yf, yo, yi, yw, ya, y1, y2, yK, yW, yL, yq, nm, nv, no, yA, lf, rt, iK, iN)) : wpY_goOn post (yma, ypo, yhe, yvm, yin, yfi, yde, yap, yas, yto, yan, yco, yti, yna, yac, yen, yic, o, l, kS, d, pl, ys, yk, yn, yp, yf, yo, yi, yw, ya, y1, y2, yK, yW, yL, yq, nm, nv, no, yA, lf, rt, iK, iN) (nI g) := by
  have eg' : (nI g).toNatClampNeg = g := nI_clamp (by omega)
  have hin : vp_in (nI g) 601 := vp_in_nI (by omega) (by omega)
  have hiq : vp_in (nI q) 40 := vp_in_nI hq (by omega)
  refine yg_pre hg eo hq ek (by omega) (fun w => absurd w (by omega)) (fun e => absurd e (by omega)) (fun _ _ _ => ?_) (fun _ _ w => absurd (by rw [e2]; decide) w)
  unfold wpY_goOnFirst
  dsimp only
  rw [eg', eo, nI_clamp (show q < 2 ^ 31 by omega)]
  refine ⟨hin, nm_e ⟨hin, hiq, nm_e ?_⟩⟩
  exact br_f (by decide) (br_f (by decide) (br_f et (yr_tell ea hp)))
theorem yf_30 {yma ypo yhe yvm : Int32} {yin : Int64} {yfi yde yap yas yto : Int32} {yan : Int64} {yco yti yna yac yen yic : Int32} {o l kS d : Nat → Int32} {pl ys : Nat → Int64} {yk yn yp yf yo : Nat → Int32} {yi : Nat → Int64} {yw ya y1 y2 : Nat → Int32} {yK : Nat → Int64} {yW : Nat → Int32} {yL : Nat → Int64} {yq nm : Nat → Int32} {nv : Nat → Int64} {no : Nat → Int32} {yA lf rt : Nat → Int64} {iK iN : Nat → Int32} {yma' ypo' yhe' yvm' : Int32} {yin' : Int64} {yfi' yde' yap' yas' yto' : Int32} {yan' : Int64} {yco' yti' yna' yac' yen' yic' : Int32} {o' l' kS' d' : Nat → Int32} {pl' ys' : Nat → Int64} {yk' yn' yp' yf' yo' : Nat → Int32} {yi' : Nat → Int64} {yw' ya' y1' y2' : Nat → Int32} {yK' : Nat → Int64} {yW' : Nat → Int32} {yL' : Nat → Int64} {yq' nm' : Nat → Int32} {nv' : Nat → Int64} {no' : Nat → Int32} {yA' lf' rt' : Nat → Int64} {iK' iN' : Nat → Int32} {post : SY → Prop} {g q : Nat} (hg : g < 600) (eo : yo g = nI q) (hq : q < 40) (ek : yk q = nI 30) (e2 : y2 g = -1) (et : yto = 0) (hA : ∀ Q : SY → Prop, Q (yma', ypo', yhe', yvm', yin', yfi', yde', yap', yas', yto', yan', yco', yti', yna', yac', yen', yic', o', l', kS', d', pl', ys', yk', yn', yp', yf', yo', yi', yw', ya', y1', y2', yK', yW', yL', yq', nm', nv', no', yA', lf', rt', iK', iN') → wpY_askSecond Q (yma, ypo, yhe, yvm, yin, yfi, yde, yap, yas, yto, yan, yco, yti, yna, yac, yen, yic, o, l, kS, d, pl, ys, yk, yn, yp, yf, yo, yi, yw, ya, y1, y2, yK, yW, yL, yq, nm, nv, no, yA, lf, rt, iK, iN) (nI g) (nI 1) yan (yw g)) (hp : post (yma', ypo', yhe', yvm', yin', yfi', yde', yap', yas', yto', yan', yco', yti', yna', yac', yen', yic', o', l', kS', d', pl', ys', yk', yn', yp', yf', yo', yi', yw', ya', y1', y2', yK', yW', yL', yq', nm', nv', no', yA', lf', rt', iK', iN')) : wpY_goOn post (yma, ypo, yhe, yvm, yin, yfi, yde, yap, yas, yto, yan, yco, yti, yna, yac, yen, yic, o, l, kS, d, pl, ys, yk, yn, yp, yf, yo, yi, yw, ya, y1, y2, yK, yW, yL, yq, nm, nv, no, yA, lf, rt, iK, iN) (nI g) := by
  have eg' : (nI g).toNatClampNeg = g := nI_clamp (by omega)
  have hin : vp_in (nI g) 601 := vp_in_nI (by omega) (by omega)
  have hiq : vp_in (nI q) 40 := vp_in_nI hq (by omega)
  refine yg_pre hg eo hq ek (by omega) (fun w => absurd w (by omega)) (fun e => absurd e (by omega)) (fun _ _ _ => ?_) (fun _ _ w => absurd (by rw [e2]; decide) w)
  unfold wpY_goOnFirst
  dsimp only
  rw [eg', eo, nI_clamp (show q < 2 ^ 31 by omega)]
  refine ⟨hin, nm_e ⟨hin, hiq, nm_e ?_⟩⟩
  exact br_f (by decide) (br_f (by decide) (br_t et (br_t rfl (⟨hin, hA _ hp⟩))))
theorem yf_32 {yma ypo yhe yvm : Int32} {yin : Int64} {yfi yde yap yas yto : Int32} {yan : Int64} {yco yti yna yac yen yic : Int32} {o l kS d : Nat → Int32} {pl ys : Nat → Int64} {yk yn yp yf yo : Nat → Int32} {yi : Nat → Int64} {yw ya y1 y2 : Nat → Int32} {yK : Nat → Int64} {yW : Nat → Int32} {yL : Nat → Int64} {yq nm : Nat → Int32} {nv : Nat → Int64} {no : Nat → Int32} {yA lf rt : Nat → Int64} {iK iN : Nat → Int32} {yma' ypo' yhe' yvm' : Int32} {yin' : Int64} {yfi' yde' yap' yas' yto' : Int32} {yan' : Int64} {yco' yti' yna' yac' yen' yic' : Int32} {o' l' kS' d' : Nat → Int32} {pl' ys' : Nat → Int64} {yk' yn' yp' yf' yo' : Nat → Int32} {yi' : Nat → Int64} {yw' ya' y1' y2' : Nat → Int32} {yK' : Nat → Int64} {yW' : Nat → Int32} {yL' : Nat → Int64} {yq' nm' : Nat → Int32} {nv' : Nat → Int64} {no' : Nat → Int32} {yA' lf' rt' : Nat → Int64} {iK' iN' : Nat → Int32} {post : SY → Prop} {g q : Nat} (hg : g < 600) (eo : yo g = nI q) (hq : q < 40) (ek : yk q = nI 32) (e2 : y2 g = -1) (et : yto = 0) (hA : ∀ Q : SY → Prop, Q (yma', ypo', yhe', yvm', yin', yfi', yde', yap', yas', yto', yan', yco', yti', yna', yac', yen', yic', o', l', kS', d', pl', ys', yk', yn', yp', yf', yo', yi', yw', ya', y1', y2', yK', yW', yL', yq', nm', nv', no', yA', lf', rt', iK', iN') → wpY_askSecond Q (yma, ypo, yhe, yvm, yin, yfi, yde, yap, yas, yto, yan, yco, yti, yna, yac, yen, yic, o, l, kS, d, pl, ys, yk, yn, yp, yf, yo, yi, yw, ya, y1, y2, (vp_updL yK g yan), yW, yL, yq, nm, nv, no, yA, lf, rt, iK, iN) (nI g) (nI 1) (yi g) (yw g)) (hp : post (yma', ypo', yhe', yvm', yin', yfi', yde', yap', yas', yto', yan', yco', yti', yna', yac', yen', yic', o', l', kS', d', pl', ys', yk', yn', yp', yf', yo', yi', yw', ya', y1', y2', yK', yW', yL', yq', nm', nv', no', yA', lf', rt', iK', iN')) : wpY_goOn post (yma, ypo, yhe, yvm, yin, yfi, yde, yap, yas, yto, yan, yco, yti, yna, yac, yen, yic, o, l, kS, d, pl, ys, yk, yn, yp, yf, yo, yi, yw, ya, y1, y2, yK, yW, yL, yq, nm, nv, no, yA, lf, rt, iK, iN) (nI g) := by
  have eg' : (nI g).toNatClampNeg = g := nI_clamp (by omega)
  have hin : vp_in (nI g) 601 := vp_in_nI (by omega) (by omega)
  have hiq : vp_in (nI q) 40 := vp_in_nI hq (by omega)
  refine yg_pre hg eo hq ek (by omega) (fun w => absurd w (by omega)) (fun e => absurd e (by omega)) (fun _ _ _ => ?_) (fun _ _ w => absurd (by rw [e2]; decide) w)
  unfold wpY_goOnFirst
  dsimp only
  rw [eg', eo, nI_clamp (show q < 2 ^ 31 by omega)]
  refine ⟨hin, nm_e ⟨hin, hiq, nm_e ?_⟩⟩
  exact br_f (by decide) (br_f (by decide) (br_t et (br_f (by decide) (br_f (by decide) (br_f (by decide) (br_f (by decide) (br_f (by decide) (⟨hin, nm_e ⟨hin, hA _ hp⟩⟩))))))))
theorem yf_33 {yma ypo yhe yvm : Int32} {yin : Int64} {yfi yde yap yas yto : Int32} {yan : Int64} {yco yti yna yac yen yic : Int32} {o l kS d : Nat → Int32} {pl ys : Nat → Int64} {yk yn yp yf yo : Nat → Int32} {yi : Nat → Int64} {yw ya y1 y2 : Nat → Int32} {yK : Nat → Int64} {yW : Nat → Int32} {yL : Nat → Int64} {yq nm : Nat → Int32} {nv : Nat → Int64} {no : Nat → Int32} {yA lf rt : Nat → Int64} {iK iN : Nat → Int32} {yma' ypo' yhe' yvm' : Int32} {yin' : Int64} {yfi' yde' yap' yas' yto' : Int32} {yan' : Int64} {yco' yti' yna' yac' yen' yic' : Int32} {o' l' kS' d' : Nat → Int32} {pl' ys' : Nat → Int64} {yk' yn' yp' yf' yo' : Nat → Int32} {yi' : Nat → Int64} {yw' ya' y1' y2' : Nat → Int32} {yK' : Nat → Int64} {yW' : Nat → Int32} {yL' : Nat → Int64} {yq' nm' : Nat → Int32} {nv' : Nat → Int64} {no' : Nat → Int32} {yA' lf' rt' : Nat → Int64} {iK' iN' : Nat → Int32} {post : SY → Prop} {g q : Nat} (hg : g < 600) (eo : yo g = nI q) (hq : q < 40) (ek : yk q = nI 33) (e2 : y2 g = -1) (et : yto = 0) (hA : ∀ Q : SY → Prop, Q (yma', ypo', yhe', yvm', yin', yfi', yde', yap', yas', yto', yan', yco', yti', yna', yac', yen', yic', o', l', kS', d', pl', ys', yk', yn', yp', yf', yo', yi', yw', ya', y1', y2', yK', yW', yL', yq', nm', nv', no', yA', lf', rt', iK', iN') → wpY_askSecond Q (yma, ypo, yhe, yvm, yin, yfi, yde, yap, yas, yto, yan, yco, yti, yna, yac, yen, yic, o, l, kS, d, pl, ys, yk, yn, yp, yf, yo, yi, yw, ya, y1, y2, (vp_updL yK g yan), yW, yL, yq, nm, nv, no, yA, lf, rt, iK, iN) (nI g) (nI 1) (yi g) (yw g)) (hp : post (yma', ypo', yhe', yvm', yin', yfi', yde', yap', yas', yto', yan', yco', yti', yna', yac', yen', yic', o', l', kS', d', pl', ys', yk', yn', yp', yf', yo', yi', yw', ya', y1', y2', yK', yW', yL', yq', nm', nv', no', yA', lf', rt', iK', iN')) : wpY_goOn post (yma, ypo, yhe, yvm, yin, yfi, yde, yap, yas, yto, yan, yco, yti, yna, yac, yen, yic, o, l, kS, d, pl, ys, yk, yn, yp, yf, yo, yi, yw, ya, y1, y2, yK, yW, yL, yq, nm, nv, no, yA, lf, rt, iK, iN) (nI g) := by
  have eg' : (nI g).toNatClampNeg = g := nI_clamp (by omega)
  have hin : vp_in (nI g) 601 := vp_in_nI (by omega) (by omega)
  have hiq : vp_in (nI q) 40 := vp_in_nI hq (by omega)
  refine yg_pre hg eo hq ek (by omega) (fun w => absurd w (by omega)) (fun e => absurd e (by omega)) (fun _ _ _ => ?_) (fun _ _ w => absurd (by rw [e2]; decide) w)
  unfold wpY_goOnFirst
  dsimp only
  rw [eg', eo, nI_clamp (show q < 2 ^ 31 by omega)]
  refine ⟨hin, nm_e ⟨hin, hiq, nm_e ?_⟩⟩
  exact br_f (by decide) (br_f (by decide) (br_t et (br_f (by decide) (br_f (by decide) (br_f (by decide) (br_f (by decide) (br_f (by decide) (⟨hin, nm_e ⟨hin, hA _ hp⟩⟩))))))))
theorem yf_34 {yma ypo yhe yvm : Int32} {yin : Int64} {yfi yde yap yas yto : Int32} {yan : Int64} {yco yti yna yac yen yic : Int32} {o l kS d : Nat → Int32} {pl ys : Nat → Int64} {yk yn yp yf yo : Nat → Int32} {yi : Nat → Int64} {yw ya y1 y2 : Nat → Int32} {yK : Nat → Int64} {yW : Nat → Int32} {yL : Nat → Int64} {yq nm : Nat → Int32} {nv : Nat → Int64} {no : Nat → Int32} {yA lf rt : Nat → Int64} {iK iN : Nat → Int32} {yma' ypo' yhe' yvm' : Int32} {yin' : Int64} {yfi' yde' yap' yas' yto' : Int32} {yan' : Int64} {yco' yti' yna' yac' yen' yic' : Int32} {o' l' kS' d' : Nat → Int32} {pl' ys' : Nat → Int64} {yk' yn' yp' yf' yo' : Nat → Int32} {yi' : Nat → Int64} {yw' ya' y1' y2' : Nat → Int32} {yK' : Nat → Int64} {yW' : Nat → Int32} {yL' : Nat → Int64} {yq' nm' : Nat → Int32} {nv' : Nat → Int64} {no' : Nat → Int32} {yA' lf' rt' : Nat → Int64} {iK' iN' : Nat → Int32} {post : SY → Prop} {g q : Nat} (hg : g < 600) (eo : yo g = nI q) (hq : q < 40) (ek : yk q = nI 34) (e2 : y2 g = -1) (et : yto = 0) (hA : ∀ Q : SY → Prop, Q (yma', ypo', yhe', yvm', yin', yfi', yde', yap', yas', yto', yan', yco', yti', yna', yac', yen', yic', o', l', kS', d', pl', ys', yk', yn', yp', yf', yo', yi', yw', ya', y1', y2', yK', yW', yL', yq', nm', nv', no', yA', lf', rt', iK', iN') → wpY_askSecond Q (yma, ypo, yhe, yvm, yin, yfi, yde, yap, yas, yto, yan, yco, yti, yna, yac, yen, yic, o, l, kS, d, pl, ys, yk, yn, yp, yf, yo, yi, yw, ya, y1, y2, (vp_updL yK g yan), yW, yL, yq, nm, nv, no, yA, lf, rt, iK, iN) (nI g) (nI 1) (yi g) (yw g)) (hp : post (yma', ypo', yhe', yvm', yin', yfi', yde', yap', yas', yto', yan', yco', yti', yna', yac', yen', yic', o', l', kS', d', pl', ys', yk', yn', yp', yf', yo', yi', yw', ya', y1', y2', yK', yW', yL', yq', nm', nv', no', yA', lf', rt', iK', iN')) : wpY_goOn post (yma, ypo, yhe, yvm, yin, yfi, yde, yap, yas, yto, yan, yco, yti, yna, yac, yen, yic, o, l, kS, d, pl, ys, yk, yn, yp, yf, yo, yi, yw, ya, y1, y2, yK, yW, yL, yq, nm, nv, no, yA, lf, rt, iK, iN) (nI g) := by
  have eg' : (nI g).toNatClampNeg = g := nI_clamp (by omega)
  have hin : vp_in (nI g) 601 := vp_in_nI (by omega) (by omega)
  have hiq : vp_in (nI q) 40 := vp_in_nI hq (by omega)
  refine yg_pre hg eo hq ek (by omega) (fun w => absurd w (by omega)) (fun e => absurd e (by omega)) (fun _ _ _ => ?_) (fun _ _ w => absurd (by rw [e2]; decide) w)
  unfold wpY_goOnFirst
  dsimp only
  rw [eg', eo, nI_clamp (show q < 2 ^ 31 by omega)]
  refine ⟨hin, nm_e ⟨hin, hiq, nm_e ?_⟩⟩
  exact br_f (by decide) (br_f (by decide) (br_t et (br_f (by decide) (br_f (by decide) (br_f (by decide) (br_f (by decide) (br_f (by decide) (⟨hin, nm_e ⟨hin, hA _ hp⟩⟩))))))))
theorem yf_35 {yma ypo yhe yvm : Int32} {yin : Int64} {yfi yde yap yas yto : Int32} {yan : Int64} {yco yti yna yac yen yic : Int32} {o l kS d : Nat → Int32} {pl ys : Nat → Int64} {yk yn yp yf yo : Nat → Int32} {yi : Nat → Int64} {yw ya y1 y2 : Nat → Int32} {yK : Nat → Int64} {yW : Nat → Int32} {yL : Nat → Int64} {yq nm : Nat → Int32} {nv : Nat → Int64} {no : Nat → Int32} {yA lf rt : Nat → Int64} {iK iN : Nat → Int32} {yma' ypo' yhe' yvm' : Int32} {yin' : Int64} {yfi' yde' yap' yas' yto' : Int32} {yan' : Int64} {yco' yti' yna' yac' yen' yic' : Int32} {o' l' kS' d' : Nat → Int32} {pl' ys' : Nat → Int64} {yk' yn' yp' yf' yo' : Nat → Int32} {yi' : Nat → Int64} {yw' ya' y1' y2' : Nat → Int32} {yK' : Nat → Int64} {yW' : Nat → Int32} {yL' : Nat → Int64} {yq' nm' : Nat → Int32} {nv' : Nat → Int64} {no' : Nat → Int32} {yA' lf' rt' : Nat → Int64} {iK' iN' : Nat → Int32} {post : SY → Prop} {g q : Nat} (hg : g < 600) (eo : yo g = nI q) (hq : q < 40) (ek : yk q = nI 35) (e2 : y2 g = -1) (et : yto = 0) (hA : ∀ Q : SY → Prop, Q (yma', ypo', yhe', yvm', yin', yfi', yde', yap', yas', yto', yan', yco', yti', yna', yac', yen', yic', o', l', kS', d', pl', ys', yk', yn', yp', yf', yo', yi', yw', ya', y1', y2', yK', yW', yL', yq', nm', nv', no', yA', lf', rt', iK', iN') → wpY_askSecond Q (yma, ypo, yhe, yvm, yin, yfi, yde, yap, yas, yto, yan, yco, yti, yna, yac, yen, yic, o, l, kS, d, pl, ys, yk, yn, yp, yf, yo, yi, yw, ya, y1, y2, (vp_updL yK g yan), yW, yL, yq, nm, nv, no, yA, lf, rt, iK, iN) (nI g) (nI 1) (yi g) (yw g)) (hp : post (yma', ypo', yhe', yvm', yin', yfi', yde', yap', yas', yto', yan', yco', yti', yna', yac', yen', yic', o', l', kS', d', pl', ys', yk', yn', yp', yf', yo', yi', yw', ya', y1', y2', yK', yW', yL', yq', nm', nv', no', yA', lf', rt', iK', iN')) : wpY_goOn post (yma, ypo, yhe, yvm, yin, yfi, yde, yap, yas, yto, yan, yco, yti, yna, yac, yen, yic, o, l, kS, d, pl, ys, yk, yn, yp, yf, yo, yi, yw, ya, y1, y2, yK, yW, yL, yq, nm, nv, no, yA, lf, rt, iK, iN) (nI g) := by
  have eg' : (nI g).toNatClampNeg = g := nI_clamp (by omega)
  have hin : vp_in (nI g) 601 := vp_in_nI (by omega) (by omega)
  have hiq : vp_in (nI q) 40 := vp_in_nI hq (by omega)
  refine yg_pre hg eo hq ek (by omega) (fun w => absurd w (by omega)) (fun e => absurd e (by omega)) (fun _ _ _ => ?_) (fun _ _ w => absurd (by rw [e2]; decide) w)
  unfold wpY_goOnFirst
  dsimp only
  rw [eg', eo, nI_clamp (show q < 2 ^ 31 by omega)]
  refine ⟨hin, nm_e ⟨hin, hiq, nm_e ?_⟩⟩
  exact br_f (by decide) (br_f (by decide) (br_t et (br_f (by decide) (br_f (by decide) (br_f (by decide) (br_f (by decide) (br_f (by decide) (⟨hin, nm_e ⟨hin, hA _ hp⟩⟩))))))))
theorem yf_36 {yma ypo yhe yvm : Int32} {yin : Int64} {yfi yde yap yas yto : Int32} {yan : Int64} {yco yti yna yac yen yic : Int32} {o l kS d : Nat → Int32} {pl ys : Nat → Int64} {yk yn yp yf yo : Nat → Int32} {yi : Nat → Int64} {yw ya y1 y2 : Nat → Int32} {yK : Nat → Int64} {yW : Nat → Int32} {yL : Nat → Int64} {yq nm : Nat → Int32} {nv : Nat → Int64} {no : Nat → Int32} {yA lf rt : Nat → Int64} {iK iN : Nat → Int32} {yma' ypo' yhe' yvm' : Int32} {yin' : Int64} {yfi' yde' yap' yas' yto' : Int32} {yan' : Int64} {yco' yti' yna' yac' yen' yic' : Int32} {o' l' kS' d' : Nat → Int32} {pl' ys' : Nat → Int64} {yk' yn' yp' yf' yo' : Nat → Int32} {yi' : Nat → Int64} {yw' ya' y1' y2' : Nat → Int32} {yK' : Nat → Int64} {yW' : Nat → Int32} {yL' : Nat → Int64} {yq' nm' : Nat → Int32} {nv' : Nat → Int64} {no' : Nat → Int32} {yA' lf' rt' : Nat → Int64} {iK' iN' : Nat → Int32} {post : SY → Prop} {g q : Nat} (hg : g < 600) (eo : yo g = nI q) (hq : q < 40) (ek : yk q = nI 36) (e2 : y2 g = -1) (et : yto = 0) (hA : ∀ Q : SY → Prop, Q (yma', ypo', yhe', yvm', yin', yfi', yde', yap', yas', yto', yan', yco', yti', yna', yac', yen', yic', o', l', kS', d', pl', ys', yk', yn', yp', yf', yo', yi', yw', ya', y1', y2', yK', yW', yL', yq', nm', nv', no', yA', lf', rt', iK', iN') → wpY_askSecond Q (yma, ypo, yhe, yvm, yin, yfi, yde, yap, yas, yto, yan, yco, yti, yna, yac, yen, yic, o, l, kS, d, pl, ys, yk, yn, yp, yf, yo, yi, yw, ya, y1, y2, (vp_updL yK g yan), yW, yL, yq, nm, nv, no, yA, lf, rt, iK, iN) (nI g) (nI 1) (yi g) (yw g)) (hp : post (yma', ypo', yhe', yvm', yin', yfi', yde', yap', yas', yto', yan', yco', yti', yna', yac', yen', yic', o', l', kS', d', pl', ys', yk', yn', yp', yf', yo', yi', yw', ya', y1', y2', yK', yW', yL', yq', nm', nv', no', yA', lf', rt', iK', iN')) : wpY_goOn post (yma, ypo, yhe, yvm, yin, yfi, yde, yap, yas, yto, yan, yco, yti, yna, yac, yen, yic, o, l, kS, d, pl, ys, yk, yn, yp, yf, yo, yi, yw, ya, y1, y2, yK, yW, yL, yq, nm, nv, no, yA, lf, rt, iK, iN) (nI g) := by
  have eg' : (nI g).toNatClampNeg = g := nI_clamp (by omega)
  have hin : vp_in (nI g) 601 := vp_in_nI (by omega) (by omega)
  have hiq : vp_in (nI q) 40 := vp_in_nI hq (by omega)
  refine yg_pre hg eo hq ek (by omega) (fun w => absurd w (by omega)) (fun e => absurd e (by omega)) (fun _ _ _ => ?_) (fun _ _ w => absurd (by rw [e2]; decide) w)
  unfold wpY_goOnFirst
  dsimp only
  rw [eg', eo, nI_clamp (show q < 2 ^ 31 by omega)]
  refine ⟨hin, nm_e ⟨hin, hiq, nm_e ?_⟩⟩
  exact br_f (by decide) (br_f (by decide) (br_t et (br_f (by decide) (br_f (by decide) (br_f (by decide) (br_f (by decide) (br_f (by decide) (⟨hin, nm_e ⟨hin, hA _ hp⟩⟩))))))))
theorem yf_37 {yma ypo yhe yvm : Int32} {yin : Int64} {yfi yde yap yas yto : Int32} {yan : Int64} {yco yti yna yac yen yic : Int32} {o l kS d : Nat → Int32} {pl ys : Nat → Int64} {yk yn yp yf yo : Nat → Int32} {yi : Nat → Int64} {yw ya y1 y2 : Nat → Int32} {yK : Nat → Int64} {yW : Nat → Int32} {yL : Nat → Int64} {yq nm : Nat → Int32} {nv : Nat → Int64} {no : Nat → Int32} {yA lf rt : Nat → Int64} {iK iN : Nat → Int32} {yma' ypo' yhe' yvm' : Int32} {yin' : Int64} {yfi' yde' yap' yas' yto' : Int32} {yan' : Int64} {yco' yti' yna' yac' yen' yic' : Int32} {o' l' kS' d' : Nat → Int32} {pl' ys' : Nat → Int64} {yk' yn' yp' yf' yo' : Nat → Int32} {yi' : Nat → Int64} {yw' ya' y1' y2' : Nat → Int32} {yK' : Nat → Int64} {yW' : Nat → Int32} {yL' : Nat → Int64} {yq' nm' : Nat → Int32} {nv' : Nat → Int64} {no' : Nat → Int32} {yA' lf' rt' : Nat → Int64} {iK' iN' : Nat → Int32} {post : SY → Prop} {g q : Nat} (hg : g < 600) (eo : yo g = nI q) (hq : q < 40) (ek : yk q = nI 37) (e2 : y2 g = -1) (et : yto = 0) (hA : ∀ Q : SY → Prop, Q (yma', ypo', yhe', yvm', yin', yfi', yde', yap', yas', yto', yan', yco', yti', yna', yac', yen', yic', o', l', kS', d', pl', ys', yk', yn', yp', yf', yo', yi', yw', ya', y1', y2', yK', yW', yL', yq', nm', nv', no', yA', lf', rt', iK', iN') → wpY_askSecond Q (yma, ypo, yhe, yvm, yin, yfi, yde, yap, yas, yto, yan, yco, yti, yna, yac, yen, yic, o, l, kS, d, pl, ys, yk, yn, yp, yf, yo, yi, yw, ya, y1, y2, (vp_updL yK g yan), yW, yL, yq, nm, nv, no, yA, lf, rt, iK, iN) (nI g) (nI 1) (yi g) (yw g)) (hp : post (yma', ypo', yhe', yvm', yin', yfi', yde', yap', yas', yto', yan', yco', yti', yna', yac', yen', yic', o', l', kS', d', pl', ys', yk', yn', yp', yf', yo', yi', yw', ya', y1', y2', yK', yW', yL', yq', nm', nv', no', yA', lf', rt', iK', iN')) : wpY_goOn post (yma, ypo, yhe, yvm, yin, yfi, yde, yap, yas, yto, yan, yco, yti, yna, yac, yen, yic, o, l, kS, d, pl, ys, yk, yn, yp, yf, yo, yi, yw, ya, y1, y2, yK, yW, yL, yq, nm, nv, no, yA, lf, rt, iK, iN) (nI g) := by
  have eg' : (nI g).toNatClampNeg = g := nI_clamp (by omega)
  have hin : vp_in (nI g) 601 := vp_in_nI (by omega) (by omega)
  have hiq : vp_in (nI q) 40 := vp_in_nI hq (by omega)
  refine yg_pre hg eo hq ek (by omega) (fun w => absurd w (by omega)) (fun e => absurd e (by omega)) (fun _ _ _ => ?_) (fun _ _ w => absurd (by rw [e2]; decide) w)
  unfold wpY_goOnFirst
  dsimp only
  rw [eg', eo, nI_clamp (show q < 2 ^ 31 by omega)]
  refine ⟨hin, nm_e ⟨hin, hiq, nm_e ?_⟩⟩
  exact br_f (by decide) (br_f (by decide) (br_t et (br_f (by decide) (br_f (by decide) (br_f (by decide) (br_f (by decide) (br_f (by decide) (⟨hin, nm_e ⟨hin, hA _ hp⟩⟩))))))))
theorem yf_38 {yma ypo yhe yvm : Int32} {yin : Int64} {yfi yde yap yas yto : Int32} {yan : Int64} {yco yti yna yac yen yic : Int32} {o l kS d : Nat → Int32} {pl ys : Nat → Int64} {yk yn yp yf yo : Nat → Int32} {yi : Nat → Int64} {yw ya y1 y2 : Nat → Int32} {yK : Nat → Int64} {yW : Nat → Int32} {yL : Nat → Int64} {yq nm : Nat → Int32} {nv : Nat → Int64} {no : Nat → Int32} {yA lf rt : Nat → Int64} {iK iN : Nat → Int32} {yma' ypo' yhe' yvm' : Int32} {yin' : Int64} {yfi' yde' yap' yas' yto' : Int32} {yan' : Int64} {yco' yti' yna' yac' yen' yic' : Int32} {o' l' kS' d' : Nat → Int32} {pl' ys' : Nat → Int64} {yk' yn' yp' yf' yo' : Nat → Int32} {yi' : Nat → Int64} {yw' ya' y1' y2' : Nat → Int32} {yK' : Nat → Int64} {yW' : Nat → Int32} {yL' : Nat → Int64} {yq' nm' : Nat → Int32} {nv' : Nat → Int64} {no' : Nat → Int32} {yA' lf' rt' : Nat → Int64} {iK' iN' : Nat → Int32} {post : SY → Prop} {g q : Nat} (hg : g < 600) (eo : yo g = nI q) (hq : q < 40) (ek : yk q = nI 38) (e2 : y2 g = -1) (et : yto = 0) (hA : ∀ Q : SY → Prop, Q (yma', ypo', yhe', yvm', yin', yfi', yde', yap', yas', yto', yan', yco', yti', yna', yac', yen', yic', o', l', kS', d', pl', ys', yk', yn', yp', yf', yo', yi', yw', ya', y1', y2', yK', yW', yL', yq', nm', nv', no', yA', lf', rt', iK', iN') → wpY_askSecond Q (yma, ypo, yhe, yvm, yin, yfi, yde, yap, yas, yto, yan, yco, yti, yna, yac, yen, yic, o, l, kS, d, pl, ys, yk, yn, yp, yf, yo, yi, yw, ya, y1, y2, (vp_updL yK g yan), yW, yL, yq, nm, nv, no, yA, lf, rt, iK, iN) (nI g) (nI 1) (yi g) (yw g)) (hp : post (yma', ypo', yhe', yvm', yin', yfi', yde', yap', yas', yto', yan', yco', yti', yna', yac', yen', yic', o', l', kS', d', pl', ys', yk', yn', yp', yf', yo', yi', yw', ya', y1', y2', yK', yW', yL', yq', nm', nv', no', yA', lf', rt', iK', iN')) : wpY_goOn post (yma, ypo, yhe, yvm, yin, yfi, yde, yap, yas, yto, yan, yco, yti, yna, yac, yen, yic, o, l, kS, d, pl, ys, yk, yn, yp, yf, yo, yi, yw, ya, y1, y2, yK, yW, yL, yq, nm, nv, no, yA, lf, rt, iK, iN) (nI g) := by
  have eg' : (nI g).toNatClampNeg = g := nI_clamp (by omega)
  have hin : vp_in (nI g) 601 := vp_in_nI (by omega) (by omega)
  have hiq : vp_in (nI q) 40 := vp_in_nI hq (by omega)
  refine yg_pre hg eo hq ek (by omega) (fun w => absurd w (by omega)) (fun e => absurd e (by omega)) (fun _ _ _ => ?_) (fun _ _ w => absurd (by rw [e2]; decide) w)
  unfold wpY_goOnFirst
  dsimp only
  rw [eg', eo, nI_clamp (show q < 2 ^ 31 by omega)]
  refine ⟨hin, nm_e ⟨hin, hiq, nm_e ?_⟩⟩
  exact br_f (by decide) (br_f (by decide) (br_t et (br_f (by decide) (br_f (by decide) (br_f (by decide) (br_f (by decide) (br_f (by decide) (⟨hin, nm_e ⟨hin, hA _ hp⟩⟩))))))))
theorem yf_42 {yma ypo yhe yvm : Int32} {yin : Int64} {yfi yde yap yas yto : Int32} {yan : Int64} {yco yti yna yac yen yic : Int32} {o l kS d : Nat → Int32} {pl ys : Nat → Int64} {yk yn yp yf yo : Nat → Int32} {yi : Nat → Int64} {yw ya y1 y2 : Nat → Int32} {yK : Nat → Int64} {yW : Nat → Int32} {yL : Nat → Int64} {yq nm : Nat → Int32} {nv : Nat → Int64} {no : Nat → Int32} {yA lf rt : Nat → Int64} {iK iN : Nat → Int32} {yma' ypo' yhe' yvm' : Int32} {yin' : Int64} {yfi' yde' yap' yas' yto' : Int32} {yan' : Int64} {yco' yti' yna' yac' yen' yic' : Int32} {o' l' kS' d' : Nat → Int32} {pl' ys' : Nat → Int64} {yk' yn' yp' yf' yo' : Nat → Int32} {yi' : Nat → Int64} {yw' ya' y1' y2' : Nat → Int32} {yK' : Nat → Int64} {yW' : Nat → Int32} {yL' : Nat → Int64} {yq' nm' : Nat → Int32} {nv' : Nat → Int64} {no' : Nat → Int32} {yA' lf' rt' : Nat → Int64} {iK' iN' : Nat → Int32} {post : SY → Prop} {g q : Nat} (hg : g < 600) (eo : yo g = nI q) (hq : q < 40) (ek : yk q = nI 42) (e2 : y2 g = -1) {nd : Nat} (et : yto = 0) (en : yna = nI nd) (hn : nd < 700) (hA : ∀ Q : SY → Prop, Q (yma', ypo', yhe', yvm', yin', yfi', yde', yap', yas', yto', yan', yco', yti', yna', yac', yen', yic', o', l', kS', d', pl', ys', yk', yn', yp', yf', yo', yi', yw', ya', y1', y2', yK', yW', yL', yq', nm', nv', no', yA', lf', rt', iK', iN') → wpY_askSecond Q (yma, ypo, yhe, yvm, yin, yfi, yde, yap, yas, yto, yan, yco, yti, (nI (nd + 1)), yac, yen, yic, o, l, kS, d, pl, ys, yk, yn, yp, yf, yo, yi, yw, ya, y1, y2, yK, yW, yL, yq, (upd nm nd (yn q)), (vp_updL nv nd yan), (upd no nd (yw g)), yA, lf, rt, iK, iN) (nI g) (nI 1) (yi g) (nI nd)) (hp : post (yma', ypo', yhe', yvm', yin', yfi', yde', yap', yas', yto', yan', yco', yti', yna', yac', yen', yic', o', l', kS', d', pl', ys', yk', yn', yp', yf', yo', yi', yw', ya', y1', y2', yK', yW', yL', yq', nm', nv', no', yA', lf', rt', iK', iN')) : wpY_goOn post (yma, ypo, yhe, yvm, yin, yfi, yde, yap, yas, yto, yan, yco, yti, yna, yac, yen, yic, o, l, kS, d, pl, ys, yk, yn, yp, yf, yo, yi, yw, ya, y1, y2, yK, yW, yL, yq, nm, nv, no, yA, lf, rt, iK, iN) (nI g) := by
  have eg' : (nI g).toNatClampNeg = g := nI_clamp (by omega)
  have hin : vp_in (nI g) 601 := vp_in_nI (by omega) (by omega)
  have hiq : vp_in (nI q) 40 := vp_in_nI hq (by omega)
  refine yg_pre hg eo hq ek (by omega) (fun w => absurd w (by omega)) (fun e => absurd e (by omega)) (fun _ _ _ => ?_) (fun _ _ w => absurd (by rw [e2]; decide) w)
  unfold wpY_goOnFirst
  dsimp only
  rw [eg', eo, nI_clamp (show q < 2 ^ 31 by omega)]
  refine ⟨hin, nm_e ⟨hin, hiq, nm_e ?_⟩⟩
  exact br_f (by decide) (br_f (by decide) (br_t et (br_f (by decide) (br_t rfl (⟨hin, yr_bind en hn (hA _ hp)⟩)))))
theorem yf_50 {yma ypo yhe yvm : Int32} {yin : Int64} {yfi yde yap yas yto : Int32} {yan : Int64} {yco yti yna yac yen yic : Int32} {o l kS d : Nat → Int32} {pl ys : Nat → Int64} {yk yn yp yf yo : Nat → Int32} {yi : Nat → Int64} {yw ya y1 y2 : Nat → Int32} {yK : Nat → Int64} {yW : Nat → Int32} {yL : Nat → Int64} {yq nm : Nat → Int32} {nv : Nat → Int64} {no : Nat → Int32} {yA lf rt : Nat → Int64} {iK iN : Nat → Int32} {yma' ypo' yhe' yvm' : Int32} {yin' : Int64} {yfi' yde' yap' yas' yto' : Int32} {yan' : Int64} {yco' yti' yna' yac' yen' yic' : Int32} {o' l' kS' d' : Nat → Int32} {pl' ys' : Nat → Int64} {yk' yn' yp' yf' yo' : Nat → Int32} {yi' : Nat → Int64} {yw' ya' y1' y2' : Nat → Int32} {yK' : Nat → Int64} {yW' : Nat → Int32} {yL' : Nat → Int64} {yq' nm' : Nat → Int32} {nv' : Nat → Int64} {no' : Nat → Int32} {yA' lf' rt' : Nat → Int64} {iK' iN' : Nat → Int32} {post : SY → Prop} {g q : Nat} (hg : g < 600) (eo : yo g = nI q) (hq : q < 40) (ek : yk q = nI 50) (e2 : y2 g = -1) {κ r : Nat} {x : Int32} (et : yto = 0) (ew : yan = yy_t κ x) (hκ : κ ≤ 5) (hr : (2 ≤ κ → r = 1) ∧ (κ < 2 → r = 2)) (hA : ∀ Q : SY → Prop, Q (yma', ypo', yhe', yvm', yin', yfi', yde', yap', yas', yto', yan', yco', yti', yna', yac', yen', yic', o', l', kS', d', pl', ys', yk', yn', yp', yf', yo', yi', yw', ya', y1', y2', yK', yW', yL', yq', nm', nv', no', yA', lf', rt', iK', iN') → wpY_askSecond Q (yma, ypo, yhe, yvm, yin, yfi, yde, yap, yas, yto, yan, yco, yti, yna, yac, yen, yic, o, l, kS, d, pl, ys, yk, yn, yp, yf, yo, yi, yw, ya, y1, y2, yK, yW, yL, yq, nm, nv, no, yA, lf, rt, iK, iN) (nI g) (nI r) (yi g) (yw g)) (hp : post (yma', ypo', yhe', yvm', yin', yfi', yde', yap', yas', yto', yan', yco', yti', yna', yac', yen', yic', o', l', kS', d', pl', ys', yk', yn', yp', yf', yo', yi', yw', ya', y1', y2', yK', yW', yL', yq', nm', nv', no', yA', lf', rt', iK', iN')) : wpY_goOn post (yma, ypo, yhe, yvm, yin, yfi, yde, yap, yas, yto, yan, yco, yti, yna, yac, yen, yic, o, l, kS, d, pl, ys, yk, yn, yp, yf, yo, yi, yw, ya, y1, y2, yK, yW, yL, yq, nm, nv, no, yA, lf, rt, iK, iN) (nI g) := by
  have eg' : (nI g).toNatClampNeg = g := nI_clamp (by omega)
  have hin : vp_in (nI g) 601 := vp_in_nI (by omega) (by omega)
  have hiq : vp_in (nI q) 40 := vp_in_nI hq (by omega)
  refine yg_pre hg eo hq ek (by omega) (fun w => absurd w (by omega)) (fun e => absurd e (by omega)) (fun _ _ _ => ?_) (fun _ _ w => absurd (by rw [e2]; decide) w)
  unfold wpY_goOnFirst
  dsimp only
  rw [eg', eo, nI_clamp (show q < 2 ^ 31 by omega)]
  refine ⟨hin, nm_e ⟨hin, hiq, nm_e ?_⟩⟩
  have k183 : ∀ j : Nat, j = r → wY_goOnFirst_183 (fun u => match u with | (yma', ypo', yhe', yvm', yin', yfi', yde', yap', yas', yto', yan', yco', yti', yna', yac', yen', yic', o', l', kS', d', pl', ys', yk', yn', yp', yf', yo', yi', yw', ya', y1', y2', yK', yW', yL', yq', nm', nv', no', yA', lf', rt', iK', iN') => post (yma', ypo', yhe', yvm', yin', yfi', yde', yap', yas', yto', yan', yco', yti', yna', yac', yen', yic', o', l', kS', d', pl', ys', yk', yn', yp', yf', yo', yi', yw', ya', y1', y2', yK', yW', yL', yq', nm', nv', no', yA', lf', rt', iK', iN')) (nI g) (yi g) (nI j) (nI g) yma ypo yhe yvm yin yfi yde yap yas yto yan yco yti yna yac yen yic o l kS d pl ys yk yn yp yf yo yi yw ya y1 y2 yK yW yL yq nm nv no yA lf rt iK iN := by
    intro j hj
    subst hj
    unfold wY_goOnFirst_183
    rw [eg']
    exact ⟨hin, hA _ hp⟩
  refine br_f (by decide) (br_f (by decide) (br_t et (br_f (by decide) (br_f (by decide) (br_t rfl (?_))))))
  rw [ew]
  rw [ew] at k183
  exact ym_isEmpty (by omega) (fun w => br_t rfl (k183 1 (hr.1 w).symm)) (fun w => br_f (by decide) (k183 2 (hr.2 w).symm))
theorem yf_39m {yma ypo yhe yvm : Int32} {yin : Int64} {yfi yde yap yas yto : Int32} {yan : Int64} {yco yti yna yac yen yic : Int32} {o l kS d : Nat → Int32} {pl ys : Nat → Int64} {yk yn yp yf yo : Nat → Int32} {yi : Nat → Int64} {yw ya y1 y2 : Nat → Int32} {yK : Nat → Int64} {yW : Nat → Int32} {yL : Nat → Int64} {yq nm : Nat → Int32} {nv : Nat → Int64} {no : Nat → Int32} {yA lf rt : Nat → Int64} {iK iN : Nat → Int32} {post : SY → Prop} {g q : Nat} (hg : g < 600) (eo : yo g = nI q) (hq : q < 40) (ek : yk q = nI 39) (e2 : y2 g = -1) {a : Nat} (ea : yas = nI (a + 1)) {κ c : Nat} {x : Int32} (et : yto = 0) (ew : yan = yy_t κ x) (hκ : κ ≤ 5) (he : κ < 2 ↔ True) (ec : yco = nI c) (hc : c ≤ 600) (ht : c = 600 → post (yma, ypo, yhe, yvm, yin, yfi, yde, yap, yas, yto, yan, yco, 1, yna, yac, yen, yic, o, l, kS, d, pl, ys, yk, yn, yp, yf, yo, yi, yw, ya, y1, y2, yK, yW, yL, yq, nm, nv, no, yA, lf, rt, iK, iN)) (hp : c < 600 → post (yma, ypo, yhe, yvm, yin, yfi, yde, yap, (nI a), 0, (yy_t 1 0), (nI (c + 1)), yti, yna, yac, yen, yic, o, l, kS, d, pl, ys, yk, yn, yp, yf, yo, yi, yw, ya, y1, y2, yK, yW, yL, yq, nm, nv, no, yA, lf, rt, iK, iN)) : wpY_goOn post (yma, ypo, yhe, yvm, yin, yfi, yde, yap, yas, yto, yan, yco, yti, yna, yac, yen, yic, o, l, kS, d, pl, ys, yk, yn, yp, yf, yo, yi, yw, ya, y1, y2, yK, yW, yL, yq, nm, nv, no, yA, lf, rt, iK, iN) (nI g) := by
  have eg' : (nI g).toNatClampNeg = g := nI_clamp (by omega)
  have hin : vp_in (nI g) 601 := vp_in_nI (by omega) (by omega)
  have hiq : vp_in (nI q) 40 := vp_in_nI hq (by omega)
  refine yg_pre hg eo hq ek (by omega) (fun w => absurd w (by omega)) (fun e => absurd e (by omega)) (fun _ _ _ => ?_) (fun _ _ w => absurd (by rw [e2]; decide) w)
  unfold wpY_goOnFirst
  dsimp only
  rw [eg', eo, nI_clamp (show q < 2 ^ 31 by omega)]
  refine ⟨hin, nm_e ⟨hin, hiq, nm_e ?_⟩⟩
  have k227 : ∀ r z : Int32, z = r → wY_goOnFirst_227 (fun u => match u with | (yma', ypo', yhe', yvm', yin', yfi', yde', yap', yas', yto', yan', yco', yti', yna', yac', yen', yic', o', l', kS', d', pl', ys', yk', yn', yp', yf', yo', yi', yw', ya', y1', y2', yK', yW', yL', yq', nm', nv', no', yA', lf', rt', iK', iN') => post (yma', ypo', yhe', yvm', yin', yfi', yde', yap', yas', yto', yan', yco', yti', yna', yac', yen', yic', o', l', kS', d', pl', ys', yk', yn', yp', yf', yo', yi', yw', ya', y1', y2', yK', yW', yL', yq', nm', nv', no', yA', lf', rt', iK', iN')) (nI g) (nI 39) (yi g) z r yma ypo yhe yvm yin yfi yde yap yas yto yan yco yti yna yac yen yic o l kS d pl ys yk yn yp yf yo yi yw ya y1 y2 yK yW yL yq nm nv no yA lf rt iK iN := by
    intro r z hz
    unfold wY_goOnFirst_227
    refine br_t hz.symm ?_
    by_cases c6 : c = 600
    · subst c6
      exact yr_tired ec (br_t rfl (ht rfl))
    · refine yr_count ec (by omega) (br_f (by decide) ?_)
      refine br_f (by decide) ?_
      unfold wY_goOnFirst_251
      exact ym_truth (fun z => yr_tell ea (hp (by omega))) (fun z => absurd rfl z)
  refine br_f (by decide) (br_f (by decide) (br_t et (br_f (by decide) (br_f (by decide) (br_f (by decide) (br_t rfl (?_)))))))
  unfold wY_goOnFirst_208
  rw [ew]
  rw [ew] at k227
  exact ym_isEmpty (by omega) (fun w => absurd (he.mpr trivial) (by omega)) (fun w => br_t rfl (k227 1 1 rfl))
theorem yf_39a {yma ypo yhe yvm : Int32} {yin : Int64} {yfi yde yap yas yto : Int32} {yan : Int64} {yco yti yna yac yen yic : Int32} {o l kS d : Nat → Int32} {pl ys : Nat → Int64} {yk yn yp yf yo : Nat → Int32} {yi : Nat → Int64} {yw ya y1 y2 : Nat → Int32} {yK : Nat → Int64} {yW : Nat → Int32} {yL : Nat → Int64} {yq nm : Nat → Int32} {nv : Nat → Int64} {no : Nat → Int32} {yA lf rt : Nat → Int64} {iK iN : Nat → Int32} {yma' ypo' yhe' yvm' : Int32} {yin' : Int64} {yfi' yde' yap' yas' yto' : Int32} {yan' : Int64} {yco' yti' yna' yac' yen' yic' : Int32} {o' l' kS' d' : Nat → Int32} {pl' ys' : Nat → Int64} {yk' yn' yp' yf' yo' : Nat → Int32} {yi' : Nat → Int64} {yw' ya' y1' y2' : Nat → Int32} {yK' : Nat → Int64} {yW' : Nat → Int32} {yL' : Nat → Int64} {yq' nm' : Nat → Int32} {nv' : Nat → Int64} {no' : Nat → Int32} {yA' lf' rt' : Nat → Int64} {iK' iN' : Nat → Int32} {post : SY → Prop} {g q : Nat} (hg : g < 600) (eo : yo g = nI q) (hq : q < 40) (ek : yk q = nI 39) (e2 : y2 g = -1) {κ : Nat} {x : Int32} (et : yto = 0) (ew : yan = yy_t κ x) (hκ : κ ≤ 5) (he : κ < 2 ↔ False) (hA : ∀ Q : SY → Prop, Q (yma', ypo', yhe', yvm', yin', yfi', yde', yap', yas', yto', yan', yco', yti', yna', yac', yen', yic', o', l', kS', d', pl', ys', yk', yn', yp', yf', yo', yi', yw', ya', y1', y2', yK', yW', yL', yq', nm', nv', no', yA', lf', rt', iK', iN') → wpY_askSecond Q (yma, ypo, yhe, yvm, yin, yfi, yde, yap, yas, yto, yan, yco, yti, yna, yac, yen, yic, o, l, kS, d, pl, ys, yk, yn, yp, yf, yo, yi, yw, ya, y1, y2, yK, yW, yL, yq, nm, nv, no, yA, lf, rt, iK, iN) (nI g) (nI 1) (yi g) (yw g)) (hp : post (yma', ypo', yhe', yvm', yin', yfi', yde', yap', yas', yto', yan', yco', yti', yna', yac', yen', yic', o', l', kS', d', pl', ys', yk', yn', yp', yf', yo', yi', yw', ya', y1', y2', yK', yW', yL', yq', nm', nv', no', yA', lf', rt', iK', iN')) : wpY_goOn post (yma, ypo, yhe, yvm, yin, yfi, yde, yap, yas, yto, yan, yco, yti, yna, yac, yen, yic, o, l, kS, d, pl, ys, yk, yn, yp, yf, yo, yi, yw, ya, y1, y2, yK, yW, yL, yq, nm, nv, no, yA, lf, rt, iK, iN) (nI g) := by
  have eg' : (nI g).toNatClampNeg = g := nI_clamp (by omega)
  have hin : vp_in (nI g) 601 := vp_in_nI (by omega) (by omega)
  have hiq : vp_in (nI q) 40 := vp_in_nI hq (by omega)
  refine yg_pre hg eo hq ek (by omega) (fun w => absurd w (by omega)) (fun e => absurd e (by omega)) (fun _ _ _ => ?_) (fun _ _ w => absurd (by rw [e2]; decide) w)
  unfold wpY_goOnFirst
  dsimp only
  rw [eg', eo, nI_clamp (show q < 2 ^ 31 by omega)]
  refine ⟨hin, nm_e ⟨hin, hiq, nm_e ?_⟩⟩
  have k227 : ∀ r z : Int32, ¬ r = z → wY_goOnFirst_227 (fun u => match u with | (yma', ypo', yhe', yvm', yin', yfi', yde', yap', yas', yto', yan', yco', yti', yna', yac', yen', yic', o', l', kS', d', pl', ys', yk', yn', yp', yf', yo', yi', yw', ya', y1', y2', yK', yW', yL', yq', nm', nv', no', yA', lf', rt', iK', iN') => post (yma', ypo', yhe', yvm', yin', yfi', yde', yap', yas', yto', yan', yco', yti', yna', yac', yen', yic', o', l', kS', d', pl', ys', yk', yn', yp', yf', yo', yi', yw', ya', y1', y2', yK', yW', yL', yq', nm', nv', no', yA', lf', rt', iK', iN')) (nI g) (nI 39) (yi g) z r yma ypo yhe yvm yin yfi yde yap yas yto yan yco yti yna yac yen yic o l kS d pl ys yk yn yp yf yo yi yw ya y1 y2 yK yW yL yq nm nv no yA lf rt iK iN := by
    intro r z hz
    unfold wY_goOnFirst_227
    rw [eg']
    exact br_f hz ⟨hin, hA _ hp⟩
  refine br_f (by decide) (br_f (by decide) (br_t et (br_f (by decide) (br_f (by decide) (br_f (by decide) (br_t rfl (?_)))))))
  unfold wY_goOnFirst_208
  rw [ew]
  rw [ew] at k227
  exact ym_isEmpty (by omega) (fun w => br_t rfl (k227 0 1 (by decide))) (fun w => (he.mp w).elim)
theorem yf_40m {yma ypo yhe yvm : Int32} {yin : Int64} {yfi yde yap yas yto : Int32} {yan : Int64} {yco yti yna yac yen yic : Int32} {o l kS d : Nat → Int32} {pl ys : Nat → Int64} {yk yn yp yf yo : Nat → Int32} {yi : Nat → Int64} {yw ya y1 y2 : Nat → Int32} {yK : Nat → Int64} {yW : Nat → Int32} {yL : Nat → Int64} {yq nm : Nat → Int32} {nv : Nat → Int64} {no : Nat → Int32} {yA lf rt : Nat → Int64} {iK iN : Nat → Int32} {post : SY → Prop} {g q : Nat} (hg : g < 600) (eo : yo g = nI q) (hq : q < 40) (ek : yk q = nI 40) (e2 : y2 g = -1) {a : Nat} (ea : yas = nI (a + 1)) {κ c : Nat} {x : Int32} (et : yto = 0) (ew : yan = yy_t κ x) (hκ : κ ≤ 5) (he : κ < 2 ↔ False) (ec : yco = nI c) (hc : c ≤ 600) (ht : c = 600 → post (yma, ypo, yhe, yvm, yin, yfi, yde, yap, yas, yto, yan, yco, 1, yna, yac, yen, yic, o, l, kS, d, pl, ys, yk, yn, yp, yf, yo, yi, yw, ya, y1, y2, yK, yW, yL, yq, nm, nv, no, yA, lf, rt, iK, iN)) (hp : c < 600 → post (yma, ypo, yhe, yvm, yin, yfi, yde, yap, (nI a), 0, (yy_t 2 0), (nI (c + 1)), yti, yna, yac, yen, yic, o, l, kS, d, pl, ys, yk, yn, yp, yf, yo, yi, yw, ya, y1, y2, yK, yW, yL, yq, nm, nv, no, yA, lf, rt, iK, iN)) : wpY_goOn post (yma, ypo, yhe, yvm, yin, yfi, yde, yap, yas, yto, yan, yco, yti, yna, yac, yen, yic, o, l, kS, d, pl, ys, yk, yn, yp, yf, yo, yi, yw, ya, y1, y2, yK, yW, yL, yq, nm, nv, no, yA, lf, rt, iK, iN) (nI g) := by
  have eg' : (nI g).toNatClampNeg = g := nI_clamp (by omega)
  have hin : vp_in (nI g) 601 := vp_in_nI (by omega) (by omega)
  have hiq : vp_in (nI q) 40 := vp_in_nI hq (by omega)
  refine yg_pre hg eo hq ek (by omega) (fun w => absurd w (by omega)) (fun e => absurd e (by omega)) (fun _ _ _ => ?_) (fun _ _ w => absurd (by rw [e2]; decide) w)
  unfold wpY_goOnFirst
  dsimp only
  rw [eg', eo, nI_clamp (show q < 2 ^ 31 by omega)]
  refine ⟨hin, nm_e ⟨hin, hiq, nm_e ?_⟩⟩
  have k227 : ∀ r z : Int32, z = r → wY_goOnFirst_227 (fun u => match u with | (yma', ypo', yhe', yvm', yin', yfi', yde', yap', yas', yto', yan', yco', yti', yna', yac', yen', yic', o', l', kS', d', pl', ys', yk', yn', yp', yf', yo', yi', yw', ya', y1', y2', yK', yW', yL', yq', nm', nv', no', yA', lf', rt', iK', iN') => post (yma', ypo', yhe', yvm', yin', yfi', yde', yap', yas', yto', yan', yco', yti', yna', yac', yen', yic', o', l', kS', d', pl', ys', yk', yn', yp', yf', yo', yi', yw', ya', y1', y2', yK', yW', yL', yq', nm', nv', no', yA', lf', rt', iK', iN')) (nI g) (nI 40) (yi g) z r yma ypo yhe yvm yin yfi yde yap yas yto yan yco yti yna yac yen yic o l kS d pl ys yk yn yp yf yo yi yw ya y1 y2 yK yW yL yq nm nv no yA lf rt iK iN := by
    intro r z hz
    unfold wY_goOnFirst_227
    refine br_t hz.symm ?_
    by_cases c6 : c = 600
    · subst c6
      exact yr_tired ec (br_t rfl (ht rfl))
    · refine yr_count ec (by omega) (br_f (by decide) ?_)
      refine br_t rfl ?_
      unfold wY_goOnFirst_251
      exact ym_truth (fun z => absurd z (by decide)) (fun z => yr_tell ea (hp (by omega)))
  refine br_f (by decide) (br_f (by decide) (br_t et (br_f (by decide) (br_f (by decide) (br_f (by decide) (br_f (by decide) (br_t rfl (?_))))))))
  unfold wY_goOnFirst_208
  rw [ew]
  rw [ew] at k227
  exact ym_isEmpty (by omega) (fun w => br_f (by decide) (k227 0 0 rfl)) (fun w => (he.mp w).elim)
theorem yf_40a {yma ypo yhe yvm : Int32} {yin : Int64} {yfi yde yap yas yto : Int32} {yan : Int64} {yco yti yna yac yen yic : Int32} {o l kS d : Nat → Int32} {pl ys : Nat → Int64} {yk yn yp yf yo : Nat → Int32} {yi : Nat → Int64} {yw ya y1 y2 : Nat → Int32} {yK : Nat → Int64} {yW : Nat → Int32} {yL : Nat → Int64} {yq nm : Nat → Int32} {nv : Nat → Int64} {no : Nat → Int32} {yA lf rt : Nat → Int64} {iK iN : Nat → Int32} {yma' ypo' yhe' yvm' : Int32} {yin' : Int64} {yfi' yde' yap' yas' yto' : Int32} {yan' : Int64} {yco' yti' yna' yac' yen' yic' : Int32} {o' l' kS' d' : Nat → Int32} {pl' ys' : Nat → Int64} {yk' yn' yp' yf' yo' : Nat → Int32} {yi' : Nat → Int64} {yw' ya' y1' y2' : Nat → Int32} {yK' : Nat → Int64} {yW' : Nat → Int32} {yL' : Nat → Int64} {yq' nm' : Nat → Int32} {nv' : Nat → Int64} {no' : Nat → Int32} {yA' lf' rt' : Nat → Int64} {iK' iN' : Nat → Int32} {post : SY → Prop} {g q : Nat} (hg : g < 600) (eo : yo g = nI q) (hq : q < 40) (ek : yk q = nI 40) (e2 : y2 g = -1) {κ : Nat} {x : Int32} (et : yto = 0) (ew : yan = yy_t κ x) (hκ : κ ≤ 5) (he : κ < 2 ↔ True) (hA : ∀ Q : SY → Prop, Q (yma', ypo', yhe', yvm', yin', yfi', yde', yap', yas', yto', yan', yco', yti', yna', yac', yen', yic', o', l', kS', d', pl', ys', yk', yn', yp', yf', yo', yi', yw', ya', y1', y2', yK', yW', yL', yq', nm', nv', no', yA', lf', rt', iK', iN') → wpY_askSecond Q (yma, ypo, yhe, yvm, yin, yfi, yde, yap, yas, yto, yan, yco, yti, yna, yac, yen, yic, o, l, kS, d, pl, ys, yk, yn, yp, yf, yo, yi, yw, ya, y1, y2, yK, yW, yL, yq, nm, nv, no, yA, lf, rt, iK, iN) (nI g) (nI 1) (yi g) (yw g)) (hp : post (yma', ypo', yhe', yvm', yin', yfi', yde', yap', yas', yto', yan', yco', yti', yna', yac', yen', yic', o', l', kS', d', pl', ys', yk', yn', yp', yf', yo', yi', yw', ya', y1', y2', yK', yW', yL', yq', nm', nv', no', yA', lf', rt', iK', iN')) : wpY_goOn post (yma, ypo, yhe, yvm, yin, yfi, yde, yap, yas, yto, yan, yco, yti, yna, yac, yen, yic, o, l, kS, d, pl, ys, yk, yn, yp, yf, yo, yi, yw, ya, y1, y2, yK, yW, yL, yq, nm, nv, no, yA, lf, rt, iK, iN) (nI g) := by
  have eg' : (nI g).toNatClampNeg = g := nI_clamp (by omega)
  have hin : vp_in (nI g) 601 := vp_in_nI (by omega) (by omega)
  have hiq : vp_in (nI q) 40 := vp_in_nI hq (by omega)
  refine yg_pre hg eo hq ek (by omega) (fun w => absurd w (by omega)) (fun e => absurd e (by omega)) (fun _ _ _ => ?_) (fun _ _ w => absurd (by rw [e2]; decide) w)
  unfold wpY_goOnFirst
  dsimp only
  rw [eg', eo, nI_clamp (show q < 2 ^ 31 by omega)]
  refine ⟨hin, nm_e ⟨hin, hiq, nm_e ?_⟩⟩
  have k227 : ∀ r z : Int32, ¬ r = z → wY_goOnFirst_227 (fun u => match u with | (yma', ypo', yhe', yvm', yin', yfi', yde', yap', yas', yto', yan', yco', yti', yna', yac', yen', yic', o', l', kS', d', pl', ys', yk', yn', yp', yf', yo', yi', yw', ya', y1', y2', yK', yW', yL', yq', nm', nv', no', yA', lf', rt', iK', iN') => post (yma', ypo', yhe', yvm', yin', yfi', yde', yap', yas', yto', yan', yco', yti', yna', yac', yen', yic', o', l', kS', d', pl', ys', yk', yn', yp', yf', yo', yi', yw', ya', y1', y2', yK', yW', yL', yq', nm', nv', no', yA', lf', rt', iK', iN')) (nI g) (nI 40) (yi g) z r yma ypo yhe yvm yin yfi yde yap yas yto yan yco yti yna yac yen yic o l kS d pl ys yk yn yp yf yo yi yw ya y1 y2 yK yW yL yq nm nv no yA lf rt iK iN := by
    intro r z hz
    unfold wY_goOnFirst_227
    rw [eg']
    exact br_f hz ⟨hin, hA _ hp⟩
  refine br_f (by decide) (br_f (by decide) (br_t et (br_f (by decide) (br_f (by decide) (br_f (by decide) (br_f (by decide) (br_t rfl (?_))))))))
  unfold wY_goOnFirst_208
  rw [ew]
  rw [ew] at k227
  exact ym_isEmpty (by omega) (fun w => absurd (he.mpr trivial) (by omega)) (fun w => br_f (by decide) (k227 1 0 (by decide)))
theorem yf_31a {yma ypo yhe yvm : Int32} {yin : Int64} {yfi yde yap yas yto : Int32} {yan : Int64} {yco yti yna yac yen yic : Int32} {o l kS d : Nat → Int32} {pl ys : Nat → Int64} {yk yn yp yf yo : Nat → Int32} {yi : Nat → Int64} {yw ya y1 y2 : Nat → Int32} {yK : Nat → Int64} {yW : Nat → Int32} {yL : Nat → Int64} {yq nm : Nat → Int32} {nv : Nat → Int64} {no : Nat → Int32} {yA lf rt : Nat → Int64} {iK iN : Nat → Int32} {yma' ypo' yhe' yvm' : Int32} {yin' : Int64} {yfi' yde' yap' yas' yto' : Int32} {yan' : Int64} {yco' yti' yna' yac' yen' yic' : Int32} {o' l' kS' d' : Nat → Int32} {pl' ys' : Nat → Int64} {yk' yn' yp' yf' yo' : Nat → Int32} {yi' : Nat → Int64} {yw' ya' y1' y2' : Nat → Int32} {yK' : Nat → Int64} {yW' : Nat → Int32} {yL' : Nat → Int64} {yq' nm' : Nat → Int32} {nv' : Nat → Int64} {no' : Nat → Int32} {yA' lf' rt' : Nat → Int64} {iK' iN' : Nat → Int32} {post : SY → Prop} {g q : Nat} (hg : g < 600) (eo : yo g = nI q) (hq : q < 40) (ek : yk q = nI 31) (e2 : y2 g = -1) (et : yto = 1) (hA : ∀ Q : SY → Prop, Q (yma', ypo', yhe', yvm', yin', yfi', yde', yap', yas', yto', yan', yco', yti', yna', yac', yen', yic', o', l', kS', d', pl', ys', yk', yn', yp', yf', yo', yi', yw', ya', y1', y2', yK', yW', yL', yq', nm', nv', no', yA', lf', rt', iK', iN') → wpY_askSecond Q (yma, ypo, yhe, yvm, yin, yfi, yde, yap, yas, yto, yan, yco, yti, yna, yac, yen, yic, o, l, kS, d, pl, ys, yk, yn, yp, yf, yo, yi, yw, ya, y1, y2, yK, yW, yL, yq, nm, nv, no, yA, lf, rt, iK, iN) (nI g) (nI 1) (yi g) (yw g)) (hp : post (yma', ypo', yhe', yvm', yin', yfi', yde', yap', yas', yto', yan', yco', yti', yna', yac', yen', yic', o', l', kS', d', pl', ys', yk', yn', yp', yf', yo', yi', yw', ya', y1', y2', yK', yW', yL', yq', nm', nv', no', yA', lf', rt', iK', iN')) : wpY_goOn post (yma, ypo, yhe, yvm, yin, yfi, yde, yap, yas, yto, yan, yco, yti, yna, yac, yen, yic, o, l, kS, d, pl, ys, yk, yn, yp, yf, yo, yi, yw, ya, y1, y2, yK, yW, yL, yq, nm, nv, no, yA, lf, rt, iK, iN) (nI g) := by
  have eg' : (nI g).toNatClampNeg = g := nI_clamp (by omega)
  have hin : vp_in (nI g) 601 := vp_in_nI (by omega) (by omega)
  have hiq : vp_in (nI q) 40 := vp_in_nI hq (by omega)
  refine yg_pre hg eo hq ek (by omega) (fun w => absurd w (by omega)) (fun e => absurd e (by omega)) (fun _ _ _ => ?_) (fun _ _ w => absurd (by rw [e2]; decide) w)
  unfold wpY_goOnFirst
  dsimp only
  rw [eg', eo, nI_clamp (show q < 2 ^ 31 by omega)]
  refine ⟨hin, nm_e ⟨hin, hiq, nm_e ?_⟩⟩
  exact br_f (by decide) (br_t rfl (br_t et ⟨hin, hA _ hp⟩))
theorem yf_31t {yma ypo yhe yvm : Int32} {yin : Int64} {yfi yde yap yas yto : Int32} {yan : Int64} {yco yti yna yac yen yic : Int32} {o l kS d : Nat → Int32} {pl ys : Nat → Int64} {yk yn yp yf yo : Nat → Int32} {yi : Nat → Int64} {yw ya y1 y2 : Nat → Int32} {yK : Nat → Int64} {yW : Nat → Int32} {yL : Nat → Int64} {yq nm : Nat → Int32} {nv : Nat → Int64} {no : Nat → Int32} {yA lf rt : Nat → Int64} {iK iN : Nat → Int32} {post : SY → Prop} {g q : Nat} (hg : g < 600) (eo : yo g = nI q) (hq : q < 40) (ek : yk q = nI 31) (e2 : y2 g = -1) {a : Nat} (ea : yas = nI (a + 1)) (et : ¬ yto = 1) (hp : post (yma, ypo, yhe, yvm, yin, yfi, yde, yap, (nI a), yto, yan, yco, yti, yna, yac, yen, yic, o, l, kS, d, pl, ys, yk, yn, yp, yf, yo, yi, yw, ya, y1, y2, yK, yW, yL, yq, nm, nv, no, yA, lf, rt, iK, iN)) : wpY_goOn post (yma, ypo, yhe, yvm, yin, yfi, yde, yap, yas, yto, yan, yco, yti, yna, yac, yen, yic, o, l, kS, d, pl, ys, yk, yn, yp, yf, yo, yi, yw, ya, y1, y2, yK, yW, yL, yq, nm, nv, no, yA, lf, rt, iK, iN) (nI g) := by
  have eg' : (nI g).toNatClampNeg = g := nI_clamp (by omega)
  have hin : vp_in (nI g) 601 := vp_in_nI (by omega) (by omega)
  have hiq : vp_in (nI q) 40 := vp_in_nI hq (by omega)
  refine yg_pre hg eo hq ek (by omega) (fun w => absurd w (by omega)) (fun e => absurd e (by omega)) (fun _ _ _ => ?_) (fun _ _ w => absurd (by rw [e2]; decide) w)
  unfold wpY_goOnFirst
  dsimp only
  rw [eg', eo, nI_clamp (show q < 2 ^ 31 by omega)]
  refine ⟨hin, nm_e ⟨hin, hiq, nm_e ?_⟩⟩
  exact br_f (by decide) (br_t rfl (br_f et (yr_tell ea hp)))
theorem yf_41s {yma ypo yhe yvm : Int32} {yin : Int64} {yfi yde yap yas yto : Int32} {yan : Int64} {yco yti yna yac yen yic : Int32} {o l kS d : Nat → Int32} {pl ys : Nat → Int64} {yk yn yp yf yo : Nat → Int32} {yi : Nat → Int64} {yw ya y1 y2 : Nat → Int32} {yK : Nat → Int64} {yW : Nat → Int32} {yL : Nat → Int64} {yq nm : Nat → Int32} {nv : Nat → Int64} {no : Nat → Int32} {yA lf rt : Nat → Int64} {iK iN : Nat → Int32} {post : SY → Prop} {g q : Nat} (hg : g < 600) (eo : yo g = nI q) (hq : q < 40) (ek : yk q = nI 41) (e2 : y2 g = -1) {a : Nat} (ea : yas = nI (a + 1)) {κ f : Nat} {x : Int32} (ha : a < 600) (et : yto = 0) (ew : yan = yy_t κ x) (hκ : κ ≤ 5) (e1 : y1 g = nI f) (h0 : 2 ≤ κ → post (yma, ypo, yhe, yvm, yin, yfi, yde, yap, (nI a), 0, yan, yco, yti, yna, yac, yen, yic, o, l, kS, d, pl, ys, yk, yn, yp, yf, yo, yi, yw, ya, y1, y2, yK, (upd yW g 1), yL, yq, nm, nv, no, yA, lf, rt, iK, iN)) (h1 : κ < 2 → post (yma, ypo, yhe, yvm, yin, yfi, yde, yap, (nI (a + 2)), yto, yan, yco, yti, yna, yac, yen, yic, o, l, kS, d, pl, ys, yk, yn, yp, yf, yo, yi, yw, ya, y1, y2, yK, yW, yL, (upd yq (a + 1) (nI f)), nm, nv, no, yA, lf, rt, iK, iN)) : wpY_goOn post (yma, ypo, yhe, yvm, yin, yfi, yde, yap, yas, yto, yan, yco, yti, yna, yac, yen, yic, o, l, kS, d, pl, ys, yk, yn, yp, yf, yo, yi, yw, ya, y1, y2, yK, yW, yL, yq, nm, nv, no, yA, lf, rt, iK, iN) (nI g) := by
  have eg' : (nI g).toNatClampNeg = g := nI_clamp (by omega)
  have hin : vp_in (nI g) 601 := vp_in_nI (by omega) (by omega)
  have hiq : vp_in (nI q) 40 := vp_in_nI hq (by omega)
  refine yg_pre hg eo hq ek (by omega) (fun w => absurd w (by omega)) (fun e => absurd e (by omega)) (fun _ _ _ => ?_) (fun _ _ w => absurd (by rw [e2]; decide) w)
  unfold wpY_goOnFirst
  dsimp only
  rw [eg', eo, nI_clamp (show q < 2 ^ 31 by omega)]
  refine ⟨hin, nm_e ⟨hin, hiq, nm_e ?_⟩⟩
  refine br_t rfl ?_
  unfold wpY_goOnElse
  dsimp only
  rw [eg']
  rw [e1]
  refine br_t et ?_
  rw [ew]
  rw [ew] at h0 h1
  exact ym_isEmpty (by omega) (fun w => br_t rfl ⟨hin, nm_e (yr_tell ea (h0 w))⟩) (fun w => br_f (by decide) ⟨hin, yr_askAgain ea (by omega) (h1 w)⟩)
theorem yf_41e {yma ypo yhe yvm : Int32} {yin : Int64} {yfi yde yap yas yto : Int32} {yan : Int64} {yco yti yna yac yen yic : Int32} {o l kS d : Nat → Int32} {pl ys : Nat → Int64} {yk yn yp yf yo : Nat → Int32} {yi : Nat → Int64} {yw ya y1 y2 : Nat → Int32} {yK : Nat → Int64} {yW : Nat → Int32} {yL : Nat → Int64} {yq nm : Nat → Int32} {nv : Nat → Int64} {no : Nat → Int32} {yA lf rt : Nat → Int64} {iK iN : Nat → Int32} {post : SY → Prop} {g q : Nat} (hg : g < 600) (eo : yo g = nI q) (hq : q < 40) (ek : yk q = nI 41) (e2 : y2 g = -1) {a : Nat} (ea : yas = nI (a + 1)) (et : ¬ yto = 0) (eW : yW g = 1) (hp : post (yma, ypo, yhe, yvm, yin, yfi, yde, yap, (nI a), 1, 0, yco, yti, yna, yac, yen, yic, o, l, kS, d, pl, ys, yk, yn, yp, yf, yo, yi, yw, ya, y1, y2, yK, yW, yL, yq, nm, nv, no, yA, lf, rt, iK, iN)) : wpY_goOn post (yma, ypo, yhe, yvm, yin, yfi, yde, yap, yas, yto, yan, yco, yti, yna, yac, yen, yic, o, l, kS, d, pl, ys, yk, yn, yp, yf, yo, yi, yw, ya, y1, y2, yK, yW, yL, yq, nm, nv, no, yA, lf, rt, iK, iN) (nI g) := by
  have eg' : (nI g).toNatClampNeg = g := nI_clamp (by omega)
  have hin : vp_in (nI g) 601 := vp_in_nI (by omega) (by omega)
  have hiq : vp_in (nI q) 40 := vp_in_nI hq (by omega)
  refine yg_pre hg eo hq ek (by omega) (fun w => absurd w (by omega)) (fun e => absurd e (by omega)) (fun _ _ _ => ?_) (fun _ _ w => absurd (by rw [e2]; decide) w)
  unfold wpY_goOnFirst
  dsimp only
  rw [eg', eo, nI_clamp (show q < 2 ^ 31 by omega)]
  refine ⟨hin, nm_e ⟨hin, hiq, nm_e ?_⟩⟩
  refine br_t rfl ?_
  unfold wpY_goOnElse
  dsimp only
  rw [eg']
  exact br_f et ⟨hin, br_t eW (yr_tell ea hp)⟩
theorem yf_41a {yma ypo yhe yvm : Int32} {yin : Int64} {yfi yde yap yas yto : Int32} {yan : Int64} {yco yti yna yac yen yic : Int32} {o l kS d : Nat → Int32} {pl ys : Nat → Int64} {yk yn yp yf yo : Nat → Int32} {yi : Nat → Int64} {yw ya y1 y2 : Nat → Int32} {yK : Nat → Int64} {yW : Nat → Int32} {yL : Nat → Int64} {yq nm : Nat → Int32} {nv : Nat → Int64} {no : Nat → Int32} {yA lf rt : Nat → Int64} {iK iN : Nat → Int32} {yma' ypo' yhe' yvm' : Int32} {yin' : Int64} {yfi' yde' yap' yas' yto' : Int32} {yan' : Int64} {yco' yti' yna' yac' yen' yic' : Int32} {o' l' kS' d' : Nat → Int32} {pl' ys' : Nat → Int64} {yk' yn' yp' yf' yo' : Nat → Int32} {yi' : Nat → Int64} {yw' ya' y1' y2' : Nat → Int32} {yK' : Nat → Int64} {yW' : Nat → Int32} {yL' : Nat → Int64} {yq' nm' : Nat → Int32} {nv' : Nat → Int64} {no' : Nat → Int32} {yA' lf' rt' : Nat → Int64} {iK' iN' : Nat → Int32} {post : SY → Prop} {g q : Nat} (hg : g < 600) (eo : yo g = nI q) (hq : q < 40) (ek : yk q = nI 41) (e2 : y2 g = -1) (et : ¬ yto = 0) (eW : ¬ yW g = 1) (hA : ∀ Q : SY → Prop, Q (yma', ypo', yhe', yvm', yin', yfi', yde', yap', yas', yto', yan', yco', yti', yna', yac', yen', yic', o', l', kS', d', pl', ys', yk', yn', yp', yf', yo', yi', yw', ya', y1', y2', yK', yW', yL', yq', nm', nv', no', yA', lf', rt', iK', iN') → wpY_askSecond Q (yma, ypo, yhe, yvm, yin, yfi, yde, yap, yas, yto, yan, yco, yti, yna, yac, yen, yic, o, l, kS, d, pl, ys, yk, yn, yp, yf, yo, yi, yw, ya, y1, y2, yK, yW, yL, yq, nm, nv, no, yA, lf, rt, iK, iN) (nI g) (nI 1) (yi g) (yw g)) (hp : post (yma', ypo', yhe', yvm', yin', yfi', yde', yap', yas', yto', yan', yco', yti', yna', yac', yen', yic', o', l', kS', d', pl', ys', yk', yn', yp', yf', yo', yi', yw', ya', y1', y2', yK', yW', yL', yq', nm', nv', no', yA', lf', rt', iK', iN')) : wpY_goOn post (yma, ypo, yhe, yvm, yin, yfi, yde, yap, yas, yto, yan, yco, yti, yna, yac, yen, yic, o, l, kS, d, pl, ys, yk, yn, yp, yf, yo, yi, yw, ya, y1, y2, yK, yW, yL, yq, nm, nv, no, yA, lf, rt, iK, iN) (nI g) := by
  have eg' : (nI g).toNatClampNeg = g := nI_clamp (by omega)
  have hin : vp_in (nI g) 601 := vp_in_nI (by omega) (by omega)
  have hiq : vp_in (nI q) 40 := vp_in_nI hq (by omega)
  refine yg_pre hg eo hq ek (by omega) (fun w => absurd w (by omega)) (fun e => absurd e (by omega)) (fun _ _ _ => ?_) (fun _ _ w => absurd (by rw [e2]; decide) w)
  unfold wpY_goOnFirst
  dsimp only
  rw [eg', eo, nI_clamp (show q < 2 ^ 31 by omega)]
  refine ⟨hin, nm_e ⟨hin, hiq, nm_e ?_⟩⟩
  refine br_t rfl ?_
  unfold wpY_goOnElse
  dsimp only
  rw [eg']
  exact br_f et ⟨hin, br_f eW ⟨hin, hin, hA _ hp⟩⟩
