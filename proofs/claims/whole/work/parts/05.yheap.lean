/-! ===== Y: longs, composites ===== -/
theorem yy_s32 {κ : Nat} (h : κ < 16) (x : Int32) : (yy_t κ x >>> ((32 : Int32).toInt64 &&& 63)).toInt32 = nI κ := yy_st h x (by decide)
theorem yy_m32 {κ : Nat} (h : κ < 16) (x : Int32) : ((nI κ).toInt64 <<< ((32 : Int32).toInt64 &&& 63)) ||| (x.toInt64 &&& 4294967295) = yy_t κ x := yy_mt h x
theorem ym_thing {yma ypo yhe yvm : Int32} {yin : Int64} {yfi yde yap yas yto : Int32} {yan : Int64} {yco yti yna yac yen yic : Int32} {o l kS d : Nat → Int32} {pl ys : Nat → Int64} {yk yn yp yf yo : Nat → Int32} {yi : Nat → Int64} {yw ya y1 y2 : Nat → Int32} {yK : Nat → Int64} {yW : Nat → Int32} {yL : Nat → Int64} {yq nm : Nat → Int32} {nv : Nat → Int64} {no : Nat → Int32} {yA lf rt : Nat → Int64} {iK iN : Nat → Int32} {post : Int64 → Prop} {κ : Nat} {x : Int32} (h : κ < 16) (hp : post (yy_t κ x)) : wpY_thing post (yma, ypo, yhe, yvm, yin, yfi, yde, yap, yas, yto, yan, yco, yti, yna, yac, yen, yic, o, l, kS, d, pl, ys, yk, yn, yp, yf, yo, yi, yw, ya, y1, y2, yK, yW, yL, yq, nm, nv, no, yA, lf, rt, iK, iN) (nI κ) x := by
  unfold wpY_thing
  dsimp only
  rw [yy_m32 h]
  exact hp
theorem ym_sort {yma ypo yhe yvm : Int32} {yin : Int64} {yfi yde yap yas yto : Int32} {yan : Int64} {yco yti yna yac yen yic : Int32} {o l kS d : Nat → Int32} {pl ys : Nat → Int64} {yk yn yp yf yo : Nat → Int32} {yi : Nat → Int64} {yw ya y1 y2 : Nat → Int32} {yK : Nat → Int64} {yW : Nat → Int32} {yL : Nat → Int64} {yq nm : Nat → Int32} {nv : Nat → Int64} {no : Nat → Int32} {yA lf rt : Nat → Int64} {iK iN : Nat → Int32} {post : Int32 → Prop} {κ : Nat} {x : Int32} (h : κ < 16) (hp : post (nI κ)) : wpY_sort post (yma, ypo, yhe, yvm, yin, yfi, yde, yap, yas, yto, yan, yco, yti, yna, yac, yen, yic, o, l, kS, d, pl, ys, yk, yn, yp, yf, yo, yi, yw, ya, y1, y2, yK, yW, yL, yq, nm, nv, no, yA, lf, rt, iK, iN) (yy_t κ x) := by
  unfold wpY_sort
  dsimp only
  rw [yy_s32 h]
  exact hp
/-- the depth of a long -/
def yd_is (d : Nat → Int32) (w : Int64) (e : Nat) : Prop := e ≤ 4 ∧ ∃ κ x, κ ≤ 5 ∧ w = yy_t κ x ∧ ((κ < 4 ∧ e = 0) ∨ (4 ≤ κ ∧ ∃ j, j < 760 ∧ x = nI j ∧ d j = nI e))
theorem ym_depthOf {yma ypo yhe yvm : Int32} {yin : Int64} {yfi yde yap yas yto : Int32} {yan : Int64} {yco yti yna yac yen yic : Int32} {o l kS d : Nat → Int32} {pl ys : Nat → Int64} {yk yn yp yf yo : Nat → Int32} {yi : Nat → Int64} {yw ya y1 y2 : Nat → Int32} {yK : Nat → Int64} {yW : Nat → Int32} {yL : Nat → Int64} {yq nm : Nat → Int32} {nv : Nat → Int64} {no : Nat → Int32} {yA lf rt : Nat → Int64} {iK iN : Nat → Int32} {post : Int32 → Prop} {w : Int64} {e : Nat} (h : yd_is d w e) (hp : post (nI e)) : wpY_depthOf post (yma, ypo, yhe, yvm, yin, yfi, yde, yap, yas, yto, yan, yco, yti, yna, yac, yen, yic, o, l, kS, d, pl, ys, yk, yn, yp, yf, yo, yi, yw, ya, y1, y2, yK, yW, yL, yq, nm, nv, no, yA, lf, rt, iK, iN) w := by
  obtain ⟨_, κ, x, h5, rfl, h⟩ := h
  unfold wpY_depthOf
  dsimp only
  refine ym_sort (by omega) ?_
  rcases h with ⟨a, rfl⟩ | ⟨a, j, b, rfl, c⟩
  · exact br_f (nI_ge (b := 4) a (by decide)) hp
  · rw [yy_xt, nI_clamp (by omega), c]
    exact br_t (nI_le (a := 4) a (by omega)) ⟨vp_in_nI b (by omega), hp⟩
theorem ym_compose {yma ypo yhe yvm : Int32} {yin : Int64} {yfi yde yap yas yto : Int32} {yan : Int64} {yco yti yna yac yen yic : Int32} {o l kS d : Nat → Int32} {pl ys : Nat → Int64} {yk yn yp yf yo : Nat → Int32} {yi : Nat → Int64} {yw ya y1 y2 : Nat → Int32} {yK : Nat → Int64} {yW : Nat → Int32} {yL : Nat → Int64} {yq nm : Nat → Int32} {nv : Nat → Int64} {no : Nat → Int32} {yA lf rt : Nat → Int64} {iK iN : Nat → Int32} {post : Int64 → SY → Prop} {mk a b κ : Nat} {e : Nat → Nat} {key : Int32} (em : yma = nI mk) (hm : mk < 760) (hκ : κ < 16) (hb : b ≤ 10) (hab : a + b ≤ 8200)
    (hc : ∀ i, i < b → yd_is d (pl (a + i)) (e i))
    (hp : post (yy_t κ (nI mk)) ((nI (mk + 1)), ypo, yhe, yvm, yin, yfi, yde, yap, yas, yto, yan, yco, yti, yna, yac, yen, yic, (upd o mk (nI a)), (upd l mk (nI b)), (upd kS mk key), (upd d mk (nI (vv_mx e b + 1))), pl, ys, yk, yn, yp, yf, yo, yi, yw, ya, y1, y2, yK, yW, yL, yq, nm, nv, no, yA, lf, rt, iK, iN)) :
    wpY_compose post (yma, ypo, yhe, yvm, yin, yfi, yde, yap, yas, yto, yan, yco, yti, yna, yac, yen, yic, o, l, kS, d, pl, ys, yk, yn, yp, yf, yo, yi, yw, ya, y1, y2, yK, yW, yL, yq, nm, nv, no, yA, lf, rt, iK, iN) (nI κ) (nI a) (nI b) key := by
  subst em
  have hv : vp_in (nI mk) 760 := vp_in_nI hm (by omega)
  have ek : (nI mk).toNatClampNeg = mk := nI_clamp (by omega)
  have hl : ∀ r i, i + r = b → wY_compose_37 post (nI κ) (nI a) (nI b) (nI mk) ypo yhe yvm yin yfi yde yap yas yto yan yco yti yna yac yen yic (upd o mk (nI a)) (upd l mk (nI b)) (upd kS mk key) d pl ys yk yn yp yf yo yi yw ya y1 y2 yK yW yL yq nm nv no yA lf rt iK iN (r + 1) (nI (vv_mx e i)) (nI i) := by
    intro r
    induction r with
    | zero =>
      intro i hi
      have hi' : i = b := by omega
      subst hi'
      unfold wY_compose_37
      rw [ek, nI_1, nI_1]
      refine br_t (nI_le (Nat.le_refl _) (by omega)) ⟨hv, nm_e (nm_e ?_)⟩
      rw [nI_pred]
      exact ym_thing hκ hp
    | succ r ih =>
      intro i hi
      have hmx : vv_mx e i ≤ 4 := vv_mx_le (fun j hj => (hc j (by omega)).1)
      have h4 := (hc i (by omega)).1
      unfold wY_compose_37
      rw [nI_add, nI_clamp (show a + i < 2 ^ 31 by omega)]
      refine br_f (nI_ge (by omega) (by omega)) ⟨vp_in_nI (by omega) (by omega), ym_depthOf (hc i (by omega)) ?_⟩
      refine pk_le (e i) (vv_mx e i) (fun hle => nm_r (nI_1 i) ?_) (fun hlt => nm_r (nI_1 i) ?_)
      · have := ih (i + 1) (by omega)
        rw [vv_mx, if_neg (by omega)] at this
        exact this
      · have := ih (i + 1) (by omega)
        rw [vv_mx, if_pos hlt] at this
        exact this
  unfold wpY_compose
  dsimp only
  rw [ek]
  exact ⟨hv, nm_e ⟨hv, nm_e ⟨hv, nm_e ⟨_, hl b 0 (by omega)⟩⟩⟩⟩
theorem vv_pc_10 : ∀ m, m < 256 → vv_pc m 10 = vv_pc m 8 := by
  intro m hm
  have h8 : m / 2 ^ 8 = 0 := Nat.div_eq_of_lt (by omega)
  have h9 : m / 2 ^ 9 = 0 := Nat.div_eq_of_lt (by omega)
  show vv_sm _ 8 + m / 2 ^ 8 % 2 + m / 2 ^ 9 % 2 = _
  rw [h8, h9]
  rfl
theorem ym_bits {yma ypo yhe yvm : Int32} {yin : Int64} {yfi yde yap yas yto : Int32} {yan : Int64} {yco yti yna yac yen yic : Int32} {o l kS d : Nat → Int32} {pl ys : Nat → Int64} {yk yn yp yf yo : Nat → Int32} {yi : Nat → Int64} {yw ya y1 y2 : Nat → Int32} {yK : Nat → Int64} {yW : Nat → Int32} {yL : Nat → Int64} {yq nm : Nat → Int32} {nv : Nat → Int64} {no : Nat → Int32} {yA lf rt : Nat → Int64} {iK iN : Nat → Int32} {post : Int32 → Prop} {m : Nat} (hm : m < 2 ^ 31) (hp : post (nI (vv_pc m 10))) : wpY_bits post (yma, ypo, yhe, yvm, yin, yfi, yde, yap, yas, yto, yan, yco, yti, yna, yac, yen, yic, o, l, kS, d, pl, ys, yk, yn, yp, yf, yo, yi, yw, ya, y1, y2, yK, yW, yL, yq, nm, nv, no, yA, lf, rt, iK, iN) (nI m) := by
  have hl : ∀ r i, i + r = 10 → wY_bits_4 post (nI m) yma ypo yhe yvm yin yfi yde yap yas yto yan yco yti yna yac yen yic o l kS d pl ys yk yn yp yf yo yi yw ya y1 y2 yK yW yL yq nm nv no yA lf rt iK iN (r + 1) (nI (vv_pc m i)) (nI i) := by
    intro r
    induction r with
    | zero =>
      intro i hi
      have hi' : i = 10 := by omega
      subst hi'
      unfold wY_bits_4
      exact br_t (nI_le (a := 10) (Nat.le_refl _) (by omega)) hp
    | succ r ih =>
      intro i hi
      unfold wY_bits_4
      rw [kb_bit hm (by omega), nI_add, nI_1]
      exact br_f (nI_ge (b := 10) (by omega) (by omega)) (nm_e (nm_e (ih (i + 1) (by omega))))
  unfold wpY_bits
  dsimp only
  exact ⟨_, hl 10 0 (by omega)⟩
theorem ym_lengthOf {yma ypo yhe yvm : Int32} {yin : Int64} {yfi yde yap yas yto : Int32} {yan : Int64} {yco yti yna yac yen yic : Int32} {o l kS d : Nat → Int32} {pl ys : Nat → Int64} {yk yn yp yf yo : Nat → Int32} {yi : Nat → Int64} {yw ya y1 y2 : Nat → Int32} {yK : Nat → Int64} {yW : Nat → Int32} {yL : Nat → Int64} {yq nm : Nat → Int32} {nv : Nat → Int64} {no : Nat → Int32} {yA lf rt : Nat → Int64} {iK iN : Nat → Int32} {post : Int32 → Prop} {κ j : Nat} (hj : j < 760) (hp : post (l j)) : wpY_lengthOf post (yma, ypo, yhe, yvm, yin, yfi, yde, yap, yas, yto, yan, yco, yti, yna, yac, yen, yic, o, l, kS, d, pl, ys, yk, yn, yp, yf, yo, yi, yw, ya, y1, y2, yK, yW, yL, yq, nm, nv, no, yA, lf, rt, iK, iN) (yy_t κ (nI j)) := by
  unfold wpY_lengthOf
  dsimp only
  rw [yy_xt, nI_clamp (by omega)]
  exact ⟨vp_in_nI hj (by omega), hp⟩
theorem ym_place {yma ypo yhe yvm : Int32} {yin : Int64} {yfi yde yap yas yto : Int32} {yan : Int64} {yco yti yna yac yen yic : Int32} {o l kS d : Nat → Int32} {pl ys : Nat → Int64} {yk yn yp yf yo : Nat → Int32} {yi : Nat → Int64} {yw ya y1 y2 : Nat → Int32} {yK : Nat → Int64} {yW : Nat → Int32} {yL : Nat → Int64} {yq nm : Nat → Int32} {nv : Nat → Int64} {no : Nat → Int32} {yA lf rt : Nat → Int64} {iK iN : Nat → Int32} {post : Int64 → Prop} {κ j a i : Nat} (hj : j < 760) (eo : o j = nI a) (hi : a + i < 8200) (hp : post (pl (a + i))) : wpY_place post (yma, ypo, yhe, yvm, yin, yfi, yde, yap, yas, yto, yan, yco, yti, yna, yac, yen, yic, o, l, kS, d, pl, ys, yk, yn, yp, yf, yo, yi, yw, ya, y1, y2, yK, yW, yL, yq, nm, nv, no, yA, lf, rt, iK, iN) (yy_t κ (nI j)) (nI i) := by
  unfold wpY_place
  dsimp only
  rw [yy_xt, nI_clamp (show j < 2 ^ 31 by omega), eo, nI_add, nI_clamp (show a + i < 2 ^ 31 by omega)]
  exact ⟨vp_in_nI hj (by omega), vp_in_nI hi (by omega), hp⟩
theorem ym_isEmpty {yma ypo yhe yvm : Int32} {yin : Int64} {yfi yde yap yas yto : Int32} {yan : Int64} {yco yti yna yac yen yic : Int32} {o l kS d : Nat → Int32} {pl ys : Nat → Int64} {yk yn yp yf yo : Nat → Int32} {yi : Nat → Int64} {yw ya y1 y2 : Nat → Int32} {yK : Nat → Int64} {yW : Nat → Int32} {yL : Nat → Int64} {yq nm : Nat → Int32} {nv : Nat → Int64} {no : Nat → Int32} {yA lf rt : Nat → Int64} {iK iN : Nat → Int32} {post : Int32 → Prop} {κ : Nat} {x : Int32} (h : κ < 16) (h0 : 2 ≤ κ → post 0) (h1 : κ < 2 → post 1) : wpY_isEmpty post (yma, ypo, yhe, yvm, yin, yfi, yde, yap, yas, yto, yan, yco, yti, yna, yac, yen, yic, o, l, kS, d, pl, ys, yk, yn, yp, yf, yo, yi, yw, ya, y1, y2, yK, yW, yL, yq, nm, nv, no, yA, lf, rt, iK, iN) (yy_t κ x) := by
  unfold wpY_isEmpty
  dsimp only
  refine ym_sort h ?_
  exact pk_le 2 κ h0 h1
theorem ym_truth {yma ypo yhe yvm : Int32} {yin : Int64} {yfi yde yap yas yto : Int32} {yan : Int64} {yco yti yna yac yen yic : Int32} {o l kS d : Nat → Int32} {pl ys : Nat → Int64} {yk yn yp yf yo : Nat → Int32} {yi : Nat → Int64} {yw ya y1 y2 : Nat → Int32} {yK : Nat → Int64} {yW : Nat → Int32} {yL : Nat → Int64} {yq nm : Nat → Int32} {nv : Nat → Int64} {no : Nat → Int32} {yA lf rt : Nat → Int64} {iK iN : Nat → Int32} {post : Int64 → Prop} {z : Int32} (h0 : z = 0 → post (yy_t 1 0)) (h1 : ¬ z = 0 → post (yy_t 2 0)) : wpY_truth post (yma, ypo, yhe, yvm, yin, yfi, yde, yap, yas, yto, yan, yco, yti, yna, yac, yen, yic, o, l, kS, d, pl, ys, yk, yn, yp, yf, yo, yi, yw, ya, y1, y2, yK, yW, yL, yq, nm, nv, no, yA, lf, rt, iK, iN) z := by
  unfold wpY_truth
  dsimp only
  refine br_c (fun hz => ?_) (fun hz => ?_)
  · unfold wY_truth_10
    exact ym_thing (κ := 1) (by omega) (h0 hz)
  · unfold wY_truth_10
    exact ym_thing (κ := 2) (by omega) (h1 hz)
