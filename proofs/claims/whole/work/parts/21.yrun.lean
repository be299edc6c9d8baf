/-! ===== Y's run: counting, asking, telling ===== -/
theorem yr_count {yma ypo yhe yvm : Int32} {yin : Int64} {yfi yde yap yas yto : Int32} {yan : Int64} {yco yti yna yac yen yic : Int32} {o l kS d : Nat → Int32} {pl ys : Nat → Int64} {yk yn yp yf yo : Nat → Int32} {yi : Nat → Int64} {yw ya y1 y2 : Nat → Int32} {yK : Nat → Int64} {yW : Nat → Int32} {yL : Nat → Int64} {yq nm : Nat → Int32} {nv : Nat → Int64} {no : Nat → Int32} {yA lf rt : Nat → Int64} {iK iN : Nat → Int32} {post : Int32 → SY → Prop} {c : Nat} (ec : yco = nI c) (hc : c < 600) (hp : post 1 (yma, ypo, yhe, yvm, yin, yfi, yde, yap, yas, yto, yan, (nI (c + 1)), yti, yna, yac, yen, yic, o, l, kS, d, pl, ys, yk, yn, yp, yf, yo, yi, yw, ya, y1, y2, yK, yW, yL, yq, nm, nv, no, yA, lf, rt, iK, iN)) : wpY_count post (yma, ypo, yhe, yvm, yin, yfi, yde, yap, yas, yto, yan, yco, yti, yna, yac, yen, yic, o, l, kS, d, pl, ys, yk, yn, yp, yf, yo, yi, yw, ya, y1, y2, yK, yW, yL, yq, nm, nv, no, yA, lf, rt, iK, iN) := by
  subst ec
  unfold wpY_count
  dsimp only
  rw [nI_1]
  exact br_f (fun z => absurd ((nI_eq (b := 600) (by omega) (by omega)).mp z) (by omega)) (nm_e hp)
theorem yr_tired {yma ypo yhe yvm : Int32} {yin : Int64} {yfi yde yap yas yto : Int32} {yan : Int64} {yco yti yna yac yen yic : Int32} {o l kS d : Nat → Int32} {pl ys : Nat → Int64} {yk yn yp yf yo : Nat → Int32} {yi : Nat → Int64} {yw ya y1 y2 : Nat → Int32} {yK : Nat → Int64} {yW : Nat → Int32} {yL : Nat → Int64} {yq nm : Nat → Int32} {nv : Nat → Int64} {no : Nat → Int32} {yA lf rt : Nat → Int64} {iK iN : Nat → Int32} {post : Int32 → SY → Prop} (ec : yco = nI 600) (hp : post 0 (yma, ypo, yhe, yvm, yin, yfi, yde, yap, yas, yto, yan, yco, 1, yna, yac, yen, yic, o, l, kS, d, pl, ys, yk, yn, yp, yf, yo, yi, yw, ya, y1, y2, yK, yW, yL, yq, nm, nv, no, yA, lf, rt, iK, iN)) : wpY_count post (yma, ypo, yhe, yvm, yin, yfi, yde, yap, yas, yto, yan, yco, yti, yna, yac, yen, yic, o, l, kS, d, pl, ys, yk, yn, yp, yf, yo, yi, yw, ya, y1, y2, yK, yW, yL, yq, nm, nv, no, yA, lf, rt, iK, iN) := by
  subst ec
  unfold wpY_count
  dsimp only
  exact br_t rfl hp
theorem yr_askAgain {yma ypo yhe yvm : Int32} {yin : Int64} {yfi yde yap yas yto : Int32} {yan : Int64} {yco yti yna yac yen yic : Int32} {o l kS d : Nat → Int32} {pl ys : Nat → Int64} {yk yn yp yf yo : Nat → Int32} {yi : Nat → Int64} {yw ya y1 y2 : Nat → Int32} {yK : Nat → Int64} {yW : Nat → Int32} {yL : Nat → Int64} {yq nm : Nat → Int32} {nv : Nat → Int64} {no : Nat → Int32} {yA lf rt : Nat → Int64} {iK iN : Nat → Int32} {post : SY → Prop} {a : Nat} {g : Int32} (ea : yas = nI a) (ha : a < 602) (hp : post (yma, ypo, yhe, yvm, yin, yfi, yde, yap, (nI (a + 1)), yto, yan, yco, yti, yna, yac, yen, yic, o, l, kS, d, pl, ys, yk, yn, yp, yf, yo, yi, yw, ya, y1, y2, yK, yW, yL, (upd yq a g), nm, nv, no, yA, lf, rt, iK, iN)) : wpY_askAgain post (yma, ypo, yhe, yvm, yin, yfi, yde, yap, yas, yto, yan, yco, yti, yna, yac, yen, yic, o, l, kS, d, pl, ys, yk, yn, yp, yf, yo, yi, yw, ya, y1, y2, yK, yW, yL, yq, nm, nv, no, yA, lf, rt, iK, iN) g := by
  subst ea
  unfold wpY_askAgain
  dsimp only
  rw [nI_clamp (show a < 2 ^ 31 by omega), nI_1]
  exact ⟨vp_in_nI ha (by omega), nm_e (nm_e hp)⟩
theorem yr_ask {yma ypo yhe yvm : Int32} {yin : Int64} {yfi yde yap yas yto : Int32} {yan : Int64} {yco yti yna yac yen yic : Int32} {o l kS d : Nat → Int32} {pl ys : Nat → Int64} {yk yn yp yf yo : Nat → Int32} {yi : Nat → Int64} {yw ya y1 y2 : Nat → Int32} {yK : Nat → Int64} {yW : Nat → Int32} {yL : Nat → Int64} {yq nm : Nat → Int32} {nv : Nat → Int64} {no : Nat → Int32} {yA lf rt : Nat → Int64} {iK iN : Nat → Int32} {post : Int32 → SY → Prop} {n c a : Nat} {p w2 : Int32} {w : Int64} (en : yap = nI n) (ec : yco = nI c) (ea : yas = nI a) (hn : n < 600) (hc : c < 600) (ha : a < 602)
    (hp : post (nI n) (yma, ypo, yhe, yvm, yin, yfi, yde, (nI (n + 1)), (nI (a + 1)), yto, yan, (nI (c + 1)), yti, yna, yac, yen, yic, o, l, kS, d, pl, ys, yk, yn, yp, yf, (upd yo n p), (vp_updL yi n w), (upd yw n w2), (upd ya n 0), (upd y1 n (-1)), (upd y2 n (-1)), (vp_updL yK n 0), (upd yW n 0), yL, (upd yq a (nI n)), nm, nv, no, yA, lf, rt, iK, iN)) :
    wpY_ask post (yma, ypo, yhe, yvm, yin, yfi, yde, yap, yas, yto, yan, yco, yti, yna, yac, yen, yic, o, l, kS, d, pl, ys, yk, yn, yp, yf, yo, yi, yw, ya, y1, y2, yK, yW, yL, yq, nm, nv, no, yA, lf, rt, iK, iN) p w w2 := by
  subst en ea
  have e : (nI n).toNatClampNeg = n := nI_clamp (by omega)
  have h : vp_in (nI n) 601 := vp_in_nI (by omega) (by omega)
  unfold wpY_ask
  dsimp only
  refine yr_count ec hc (br_f (by decide) ?_)
  rw [e]
  refine ⟨h, nm_e ⟨h, nm_e ⟨h, nm_e ⟨h, nm_e ⟨h, nm_e ⟨h, nm_e ⟨h, nm_e ⟨h, nm_e (nm_r (nI_1 n) ?_)⟩⟩⟩⟩⟩⟩⟩⟩
  rw [nI_pred]
  refine yr_askAgain rfl ha ?_
  dsimp only
  rw [nI_pred]
  exact hp
theorem yr_ask_t {yma ypo yhe yvm : Int32} {yin : Int64} {yfi yde yap yas yto : Int32} {yan : Int64} {yco yti yna yac yen yic : Int32} {o l kS d : Nat → Int32} {pl ys : Nat → Int64} {yk yn yp yf yo : Nat → Int32} {yi : Nat → Int64} {yw ya y1 y2 : Nat → Int32} {yK : Nat → Int64} {yW : Nat → Int32} {yL : Nat → Int64} {yq nm : Nat → Int32} {nv : Nat → Int64} {no : Nat → Int32} {yA lf rt : Nat → Int64} {iK iN : Nat → Int32} {post : Int32 → SY → Prop} {p w2 : Int32} {w : Int64} (ec : yco = nI 600) (hp : post (-1) (yma, ypo, yhe, yvm, yin, yfi, yde, yap, yas, yto, yan, yco, 1, yna, yac, yen, yic, o, l, kS, d, pl, ys, yk, yn, yp, yf, yo, yi, yw, ya, y1, y2, yK, yW, yL, yq, nm, nv, no, yA, lf, rt, iK, iN)) : wpY_ask post (yma, ypo, yhe, yvm, yin, yfi, yde, yap, yas, yto, yan, yco, yti, yna, yac, yen, yic, o, l, kS, d, pl, ys, yk, yn, yp, yf, yo, yi, yw, ya, y1, y2, yK, yW, yL, yq, nm, nv, no, yA, lf, rt, iK, iN) p w w2 := by
  unfold wpY_ask
  dsimp only
  exact yr_tired ec (br_t rfl hp)
theorem yr_tell {yma ypo yhe yvm : Int32} {yin : Int64} {yfi yde yap yas yto : Int32} {yan : Int64} {yco yti yna yac yen yic : Int32} {o l kS d : Nat → Int32} {pl ys : Nat → Int64} {yk yn yp yf yo : Nat → Int32} {yi : Nat → Int64} {yw ya y1 y2 : Nat → Int32} {yK : Nat → Int64} {yW : Nat → Int32} {yL : Nat → Int64} {yq nm : Nat → Int32} {nv : Nat → Int64} {no : Nat → Int32} {yA lf rt : Nat → Int64} {iK iN : Nat → Int32} {post : SY → Prop} {a : Nat} {t : Int32} {w : Int64} (ea : yas = nI (a + 1)) (hp : post (yma, ypo, yhe, yvm, yin, yfi, yde, yap, (nI a), t, w, yco, yti, yna, yac, yen, yic, o, l, kS, d, pl, ys, yk, yn, yp, yf, yo, yi, yw, ya, y1, y2, yK, yW, yL, yq, nm, nv, no, yA, lf, rt, iK, iN)) : wpY_tell post (yma, ypo, yhe, yvm, yin, yfi, yde, yap, yas, yto, yan, yco, yti, yna, yac, yen, yic, o, l, kS, d, pl, ys, yk, yn, yp, yf, yo, yi, yw, ya, y1, y2, yK, yW, yL, yq, nm, nv, no, yA, lf, rt, iK, iN) t w := by
  subst ea
  unfold wpY_tell
  dsimp only
  rw [nI_pred]
  exact nm_e hp
theorem yr_part {yma ypo yhe yvm : Int32} {yin : Int64} {yfi yde yap yas yto : Int32} {yan : Int64} {yco yti yna yac yen yic : Int32} {o l kS d : Nat → Int32} {pl ys : Nat → Int64} {yk yn yp yf yo : Nat → Int32} {yi : Nat → Int64} {yw ya y1 y2 : Nat → Int32} {yK : Nat → Int64} {yW : Nat → Int32} {yL : Nat → Int64} {yq nm : Nat → Int32} {nv : Nat → Int64} {no : Nat → Int32} {yA lf rt : Nat → Int64} {iK iN : Nat → Int32} {post : Int32 → Prop} {g q r : Nat} (hg : g < 600) (eo : yo g = nI q) (hq : q < 40) (hr : r < 3) (hp : post (yp (q * 3 + r))) : wpY_part post (yma, ypo, yhe, yvm, yin, yfi, yde, yap, yas, yto, yan, yco, yti, yna, yac, yen, yic, o, l, kS, d, pl, ys, yk, yn, yp, yf, yo, yi, yw, ya, y1, y2, yK, yW, yL, yq, nm, nv, no, yA, lf, rt, iK, iN) (nI g) (nI r) := by
  unfold wpY_part
  dsimp only
  rw [nI_clamp (show g < 2 ^ 31 by omega), eo, yi_3, nI_clamp (show q * 3 + r < 2 ^ 31 by omega)]
  exact ⟨vp_in_nI (by omega) (by omega), vp_in_nI (by omega) (by omega), hp⟩
/-- the first filter within is applied -/
theorem yr_askFirst {yma ypo yhe yvm : Int32} {yin : Int64} {yfi yde yap yas yto : Int32} {yan : Int64} {yco yti yna yac yen yic : Int32} {o l kS d : Nat → Int32} {pl ys : Nat → Int64} {yk yn yp yf yo : Nat → Int32} {yi : Nat → Int64} {yw ya y1 y2 : Nat → Int32} {yK : Nat → Int64} {yW : Nat → Int32} {yL : Nat → Int64} {yq nm : Nat → Int32} {nv : Nat → Int64} {no : Nat → Int32} {yA lf rt : Nat → Int64} {iK iN : Nat → Int32} {post : SY → Prop} {n c a g q : Nat} (en : yap = nI n) (ec : yco = nI c) (ea : yas = nI a) (hn : n < 600) (hc : c < 600) (ha : a < 602) (hg : g < n) (eo : yo g = nI q) (hq : q < 40) (e1 : y1 g = -1)
    (hp : post (yma, ypo, yhe, yvm, yin, yfi, yde, (nI (n + 1)), (nI (a + 1)), yto, yan, (nI (c + 1)), yti, yna, yac, yen, yic, o, l, kS, d, pl, ys, yk, yn, yp, yf, (upd yo n (yp (q * 3 + 0))), (vp_updL yi n (yi g)), (upd yw n (yw g)), (upd ya n 0), (upd (upd y1 n (-1)) g (nI n)), (upd y2 n (-1)), (vp_updL yK n 0), (upd yW n 0), yL, (upd yq a (nI n)), nm, nv, no, yA, lf, rt, iK, iN)) :
    wpY_askFirst post (yma, ypo, yhe, yvm, yin, yfi, yde, yap, yas, yto, yan, yco, yti, yna, yac, yen, yic, o, l, kS, d, pl, ys, yk, yn, yp, yf, yo, yi, yw, ya, y1, y2, yK, yW, yL, yq, nm, nv, no, yA, lf, rt, iK, iN) (nI g) := by
  have e : (nI g).toNatClampNeg = g := nI_clamp (by omega)
  have h : vp_in (nI g) 601 := vp_in_nI (by omega) (by omega)
  unfold wpY_askFirst
  dsimp only
  rw [e, e1]
  refine ⟨h, br_f (by decide) (yr_part (r := 0) (by omega) eo hq (by omega) ⟨h, h, yr_ask en ec ea hn hc ha ?_⟩)⟩
  dsimp only
  exact ⟨h, nm_e hp⟩
theorem yr_askFirst_t {yma ypo yhe yvm : Int32} {yin : Int64} {yfi yde yap yas yto : Int32} {yan : Int64} {yco yti yna yac yen yic : Int32} {o l kS d : Nat → Int32} {pl ys : Nat → Int64} {yk yn yp yf yo : Nat → Int32} {yi : Nat → Int64} {yw ya y1 y2 : Nat → Int32} {yK : Nat → Int64} {yW : Nat → Int32} {yL : Nat → Int64} {yq nm : Nat → Int32} {nv : Nat → Int64} {no : Nat → Int32} {yA lf rt : Nat → Int64} {iK iN : Nat → Int32} {post : SY → Prop} {g q : Nat} (ec : yco = nI 600) (hg : g < 600) (eo : yo g = nI q) (hq : q < 40) (e1 : y1 g = -1)
    (hp : post (yma, ypo, yhe, yvm, yin, yfi, yde, yap, yas, yto, yan, yco, 1, yna, yac, yen, yic, o, l, kS, d, pl, ys, yk, yn, yp, yf, yo, yi, yw, ya, (upd y1 g (-1)), y2, yK, yW, yL, yq, nm, nv, no, yA, lf, rt, iK, iN)) : wpY_askFirst post (yma, ypo, yhe, yvm, yin, yfi, yde, yap, yas, yto, yan, yco, yti, yna, yac, yen, yic, o, l, kS, d, pl, ys, yk, yn, yp, yf, yo, yi, yw, ya, y1, y2, yK, yW, yL, yq, nm, nv, no, yA, lf, rt, iK, iN) (nI g) := by
  have e : (nI g).toNatClampNeg = g := nI_clamp (by omega)
  have h : vp_in (nI g) 601 := vp_in_nI (by omega) (by omega)
  unfold wpY_askFirst
  dsimp only
  rw [e, e1]
  refine ⟨h, br_f (by decide) (yr_part (r := 0) (by omega) eo hq (by omega) ⟨h, h, yr_ask_t ec ?_⟩)⟩
  dsimp only
  exact ⟨h, nm_e hp⟩
/-- the first filter within is asked again -/
theorem yr_askFirst_a {yma ypo yhe yvm : Int32} {yin : Int64} {yfi yde yap yas yto : Int32} {yan : Int64} {yco yti yna yac yen yic : Int32} {o l kS d : Nat → Int32} {pl ys : Nat → Int64} {yk yn yp yf yo : Nat → Int32} {yi : Nat → Int64} {yw ya y1 y2 : Nat → Int32} {yK : Nat → Int64} {yW : Nat → Int32} {yL : Nat → Int64} {yq nm : Nat → Int32} {nv : Nat → Int64} {no : Nat → Int32} {yA lf rt : Nat → Int64} {iK iN : Nat → Int32} {post : SY → Prop} {a g f : Nat} (ea : yas = nI a) (ha : a < 602) (hg : g < 600) (e1 : y1 g = nI f) (hf : f < 600)
    (hp : post (yma, ypo, yhe, yvm, yin, yfi, yde, yap, (nI (a + 1)), yto, yan, yco, yti, yna, yac, yen, yic, o, l, kS, d, pl, ys, yk, yn, yp, yf, yo, yi, yw, ya, y1, y2, yK, yW, yL, (upd yq a (nI f)), nm, nv, no, yA, lf, rt, iK, iN)) : wpY_askFirst post (yma, ypo, yhe, yvm, yin, yfi, yde, yap, yas, yto, yan, yco, yti, yna, yac, yen, yic, o, l, kS, d, pl, ys, yk, yn, yp, yf, yo, yi, yw, ya, y1, y2, yK, yW, yL, yq, nm, nv, no, yA, lf, rt, iK, iN) (nI g) := by
  have e : (nI g).toNatClampNeg = g := nI_clamp (by omega)
  have h : vp_in (nI g) 601 := vp_in_nI (by omega) (by omega)
  unfold wpY_askFirst
  dsimp only
  rw [e, e1]
  exact ⟨h, br_t (nI_pos' (by omega)) ⟨h, yr_askAgain ea ha hp⟩⟩
theorem yr_askSecond {yma ypo yhe yvm : Int32} {yin : Int64} {yfi yde yap yas yto : Int32} {yan : Int64} {yco yti yna yac yen yic : Int32} {o l kS d : Nat → Int32} {pl ys : Nat → Int64} {yk yn yp yf yo : Nat → Int32} {yi : Nat → Int64} {yw ya y1 y2 : Nat → Int32} {yK : Nat → Int64} {yW : Nat → Int32} {yL : Nat → Int64} {yq nm : Nat → Int32} {nv : Nat → Int64} {no : Nat → Int32} {yA lf rt : Nat → Int64} {iK iN : Nat → Int32} {post : SY → Prop} {n c a g q r : Nat} {w : Int64} {w2 : Int32} (en : yap = nI n) (ec : yco = nI c) (ea : yas = nI a) (hn : n < 600) (hc : c < 600) (ha : a < 602) (hg : g < n) (eo : yo g = nI q) (hq : q < 40) (hr : r < 3)
    (hp : post (yma, ypo, yhe, yvm, yin, yfi, yde, (nI (n + 1)), (nI (a + 1)), yto, yan, (nI (c + 1)), yti, yna, yac, yen, yic, o, l, kS, d, pl, ys, yk, yn, yp, yf, (upd yo n (yp (q * 3 + r))), (vp_updL yi n w), (upd yw n w2), (upd ya n 0), (upd y1 n (-1)), (upd (upd y2 n (-1)) g (nI n)), (vp_updL yK n 0), (upd yW n 0), yL, (upd yq a (nI n)), nm, nv, no, yA, lf, rt, iK, iN)) :
    wpY_askSecond post (yma, ypo, yhe, yvm, yin, yfi, yde, yap, yas, yto, yan, yco, yti, yna, yac, yen, yic, o, l, kS, d, pl, ys, yk, yn, yp, yf, yo, yi, yw, ya, y1, y2, yK, yW, yL, yq, nm, nv, no, yA, lf, rt, iK, iN) (nI g) (nI r) w w2 := by
  have e : (nI g).toNatClampNeg = g := nI_clamp (by omega)
  have h : vp_in (nI g) 601 := vp_in_nI (by omega) (by omega)
  unfold wpY_askSecond
  dsimp only
  rw [e]
  refine yr_part (by omega) eo hq hr (yr_ask en ec ea hn hc ha ?_)
  dsimp only
  exact ⟨h, nm_e hp⟩
theorem yr_askSecond_t {yma ypo yhe yvm : Int32} {yin : Int64} {yfi yde yap yas yto : Int32} {yan : Int64} {yco yti yna yac yen yic : Int32} {o l kS d : Nat → Int32} {pl ys : Nat → Int64} {yk yn yp yf yo : Nat → Int32} {yi : Nat → Int64} {yw ya y1 y2 : Nat → Int32} {yK : Nat → Int64} {yW : Nat → Int32} {yL : Nat → Int64} {yq nm : Nat → Int32} {nv : Nat → Int64} {no : Nat → Int32} {yA lf rt : Nat → Int64} {iK iN : Nat → Int32} {post : SY → Prop} {g q r : Nat} {w : Int64} {w2 : Int32} (ec : yco = nI 600) (hg : g < 600) (eo : yo g = nI q) (hq : q < 40) (hr : r < 3)
    (hp : post (yma, ypo, yhe, yvm, yin, yfi, yde, yap, yas, yto, yan, yco, 1, yna, yac, yen, yic, o, l, kS, d, pl, ys, yk, yn, yp, yf, yo, yi, yw, ya, y1, (upd y2 g (-1)), yK, yW, yL, yq, nm, nv, no, yA, lf, rt, iK, iN)) : wpY_askSecond post (yma, ypo, yhe, yvm, yin, yfi, yde, yap, yas, yto, yan, yco, yti, yna, yac, yen, yic, o, l, kS, d, pl, ys, yk, yn, yp, yf, yo, yi, yw, ya, y1, y2, yK, yW, yL, yq, nm, nv, no, yA, lf, rt, iK, iN) (nI g) (nI r) w w2 := by
  have e : (nI g).toNatClampNeg = g := nI_clamp (by omega)
  have h : vp_in (nI g) 601 := vp_in_nI (by omega) (by omega)
  unfold wpY_askSecond
  dsimp only
  rw [e]
  refine yr_part (by omega) eo hq hr (yr_ask_t ec ?_)
  dsimp only
  exact ⟨h, nm_e hp⟩
theorem yr_bind {yma ypo yhe yvm : Int32} {yin : Int64} {yfi yde yap yas yto : Int32} {yan : Int64} {yco yti yna yac yen yic : Int32} {o l kS d : Nat → Int32} {pl ys : Nat → Int64} {yk yn yp yf yo : Nat → Int32} {yi : Nat → Int64} {yw ya y1 y2 : Nat → Int32} {yK : Nat → Int64} {yW : Nat → Int32} {yL : Nat → Int64} {yq nm : Nat → Int32} {nv : Nat → Int64} {no : Nat → Int32} {yA lf rt : Nat → Int64} {iK iN : Nat → Int32} {post : Int32 → SY → Prop} {nd : Nat} {x w2 : Int32} {w : Int64} (en : yna = nI nd) (hn : nd < 700) (hp : post (nI nd) (yma, ypo, yhe, yvm, yin, yfi, yde, yap, yas, yto, yan, yco, yti, (nI (nd + 1)), yac, yen, yic, o, l, kS, d, pl, ys, yk, yn, yp, yf, yo, yi, yw, ya, y1, y2, yK, yW, yL, yq, (upd nm nd x), (vp_updL nv nd w), (upd no nd w2), yA, lf, rt, iK, iN)) : wpY_bind post (yma, ypo, yhe, yvm, yin, yfi, yde, yap, yas, yto, yan, yco, yti, yna, yac, yen, yic, o, l, kS, d, pl, ys, yk, yn, yp, yf, yo, yi, yw, ya, y1, y2, yK, yW, yL, yq, nm, nv, no, yA, lf, rt, iK, iN) x w w2 := by
  subst en
  have h : vp_in (nI nd) 700 := vp_in_nI hn (by omega)
  unfold wpY_bind
  dsimp only
  rw [nI_clamp (show nd < 2 ^ 31 by omega)]
  refine ⟨h, nm_e ⟨h, nm_e ⟨h, nm_e (nm_r (nI_1 nd) ?_)⟩⟩⟩
  rw [nI_pred]
  exact hp
theorem yr_meaning {yma ypo yhe yvm : Int32} {yin : Int64} {yfi yde yap yas yto : Int32} {yan : Int64} {yco yti yna yac yen yic : Int32} {o l kS d : Nat → Int32} {pl ys : Nat → Int64} {yk yn yp yf yo : Nat → Int32} {yi : Nat → Int64} {yw ya y1 y2 : Nat → Int32} {yK : Nat → Int64} {yW : Nat → Int32} {yL : Nat → Int64} {yq nm : Nat → Int32} {nv : Nat → Int64} {no : Nat → Int32} {yA lf rt : Nat → Int64} {iK iN : Nat → Int32} {post : Int64 → Prop} {nd x : Nat} {a : Int32} (h : en_ok nd no) (ha : en_at nd a) (hp : post (en_e nm no nv a x)) : wpY_meaning post (yma, ypo, yhe, yvm, yin, yfi, yde, yap, yas, yto, yan, yco, yti, yna, yac, yen, yic, o, l, kS, d, pl, ys, yk, yn, yp, yf, yo, yi, yw, ya, y1, y2, yK, yW, yL, yq, nm, nv, no, yA, lf, rt, iK, iN) (nI x) a := by
  have key : ∀ t b, (b = -1 ∧ 1 ≤ t ∨ ∃ j, b = nI j ∧ j < nd ∧ j + 2 ≤ t) → post (en_e nm no nv b x) → wY_meaning_2 post (nI x) yma ypo yhe yvm yin yfi yde yap yas yto yan yco yti yna yac yen yic o l kS d pl ys yk yn yp yf yo yi yw ya y1 y2 yK yW yL yq nm nv no yA lf rt iK iN t b := by
    intro t
    induction t with
    | zero =>
      intro b hb
      rcases hb with ⟨_, z⟩ | ⟨j, _, _, z⟩ <;> omega
    | succ t ih =>
      intro b hb hq
      unfold wY_meaning_2
      rcases hb with ⟨rfl, _⟩ | ⟨j, rfl, hj, hjt⟩
      · rw [en_e_m] at hq
        exact br_t (by decide) hq
      · have h7 := h.1
        have hpz := nI_pos (n := j) (by omega)
        have hin : vp_in (nI j) 700 := vp_in_nI (by omega) (by omega)
        unfold en_e at hq
        rw [nI_clamp (show j < 2 ^ 31 by omega), en_v, if_neg hpz, nI_clamp (show j < 2 ^ 31 by omega)] at hq
        rw [nI_clamp (show j < 2 ^ 31 by omega)]
        refine br_f hpz ⟨hin, br_c (fun e => ⟨hin, ?_⟩) (fun ne => ⟨hin, nm_e ?_⟩)⟩
        · rw [if_pos e] at hq
          exact hq
        · rw [if_neg ne] at hq
          have hat := h.2 j hj
          rcases hat with e | ⟨i, e, hi⟩
          · rw [e] at hq ⊢
            rw [en_v_m] at hq
            exact ih _ (Or.inl ⟨rfl, by omega⟩) (by rw [en_e_m]; exact hq)
          · rw [e] at hq ⊢
            refine ih _ (Or.inr ⟨i, rfl, by omega, by omega⟩) ?_
            unfold en_e
            rw [nI_clamp (show i < 2 ^ 31 by omega), en_v_f h i (by omega) (i + 1) j x (by omega) hi]
            exact hq
  unfold wpY_meaning
  dsimp only
  rcases ha with rfl | ⟨j, rfl, hj⟩
  · exact ⟨1, key 1 _ (Or.inl ⟨rfl, by omega⟩) hp⟩
  · exact ⟨j + 2, key (j + 2) _ (Or.inr ⟨j, rfl, hj, by omega⟩) hp⟩
