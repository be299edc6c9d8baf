theorem yc_m1 (c : Nat) : nI c + (-1) = nI c - 1 := (Int32.sub_eq_add_neg (nI c) 1).symm
theorem yc_0 : nI 0 - 1 < 0 := by decide
theorem yc_push {yma ypo yhe yvm : Int32} {yin : Int64} {yfi yde yap yas yto : Int32} {yan : Int64} {yco yti yna yac yen yic : Int32} {o l kS d : Nat → Int32} {pl ys : Nat → Int64} {yk yn yp yf yo : Nat → Int32} {yi : Nat → Int64} {yw ya y1 y2 : Nat → Int32} {yK : Nat → Int64} {yW : Nat → Int32} {yL : Nat → Int64} {yq nm : Nat → Int32} {nv : Nat → Int64} {no : Nat → Int32} {yA lf rt : Nat → Int64} {iK iN : Nat → Int32} {post : Int32 → SY → Prop} {J : Int32 → (Nat → Int32) → (Nat → Int32) → (Nat → Int32) → (Nat → Int32) → (Nat → Int64) → (Nat → Int64) → (Nat → Int32) → (Nat → Int32) → (Nat → Int32) → (Nat → Int32) → (Nat → Int32) → (Nat → Int64) → (Nat → Int32) → (Nat → Int32) → (Nat → Int32) → (Nat → Int32) → (Nat → Int64) → (Nat → Int32) → (Nat → Int64) → (Nat → Int32) → (Nat → Int32) → (Nat → Int64) → (Nat → Int32) → (Nat → Int64) → (Nat → Int64) → (Nat → Int64) → (Nat → Int32) → (Nat → Int32) → Prop} {M κ j j' oa la ob lb : Nat} (hM : M + 11 < 300) (hκ : 4 ≤ κ) (hκ5 : κ ≤ 5) (hj : j < 760) (hj' : j' < 760) (eo : o j = nI oa) (el : l j = nI la) (eo' : o j' = nI ob) (el' : l j' = nI lb) (hla : la ≤ 10) (hlb : lb ≤ 10) (ha : oa + la ≤ 8200) (hb : ob + lb ≤ 8200)
    (hp : ∀ lf' rt' : Nat → Int64, (∀ i, i < M → lf' i = lf i ∧ rt' i = rt i) → lf' M = yy_t 3 (nI la) → rt' M = yy_t 3 (nI lb) → (∀ i, i < min la lb → lf' (M + min la lb - i) = pl (oa + i) ∧ rt' (M + min la lb - i) = pl (ob + i)) → J (nI (M + 1 + min la lb)) o l kS d pl ys yk yn yp yf yo yi yw ya y1 y2 yK yW yL yq nm nv no yA lf' rt' iK iN) :
    wY_compare_129 post J (nI M) (yy_t κ (nI j)) (yy_t κ (nI j')) (nI κ) 0 yma ypo yhe yvm yin yfi yde yap yas yto yan yco yti yna yac yen yic o l kS d pl ys yk yn yp yf yo yi yw ya y1 y2 yK yW yL yq nm nv no yA lf rt iK iN := by
  have iM : vp_in (nI M) 300 := vp_in_nI (by omega) (by omega)
  have eM : (nI M).toNatClampNeg = M := nI_clamp (by omega)
  have k222 : ∀ c (lf' rt' : Nat → Int64), c ≤ min la lb → (∀ i, i < M → lf' i = lf i ∧ rt' i = rt i) → lf' M = yy_t 3 (nI la) → rt' M = yy_t 3 (nI lb) → (∀ i, c ≤ i → i < min la lb → lf' (M + min la lb - i) = pl (oa + i) ∧ rt' (M + min la lb - i) = pl (ob + i)) →
      wY_compare_222 post J (yy_t κ (nI j)) (yy_t κ (nI j')) yma ypo yhe yvm yin yfi yde yap yas yto yan yco yti yna yac yen yic (c + 1) (nI (M + 1 + (min la lb - c))) (nI c - 1) o l kS d pl ys yk yn yp yf yo yi yw ya y1 y2 yK yW yL yq nm nv no yA lf' rt' iK iN := by
    intro c
    induction c with
    | zero =>
      intro lf' rt' hc h1 h2 h3 h4
      unfold wY_compare_222
      exact br_t yc_0 (hp lf' rt' h1 h2 h3 (fun i hi => h4 i (by omega) hi))
    | succ c ih =>
      intro lf' rt' hc h1 h2 h3 h4
      unfold wY_compare_222
      rw [nI_pred, nI_clamp (show M + 1 + (min la lb - (c + 1)) < 2 ^ 31 by omega)]
      have ix : vp_in (nI (M + 1 + (min la lb - (c + 1)))) 300 := vp_in_nI (by omega) (by omega)
      refine br_f (nI_pos (by omega)) (ym_place hj eo (by omega) ⟨ix, nm_e (ym_place hj' eo' (by omega) ⟨ix, nm_e (nm_r (nI_1 _) (nm_r (yc_m1 c) ?_))⟩)⟩)
      have hh := ih (vp_updL lf' (M + 1 + (min la lb - (c + 1))) (pl (oa + c))) (vp_updL rt' (M + 1 + (min la lb - (c + 1))) (pl (ob + c))) (by omega) (fun i hi => ⟨(pk_uLn (by omega)).trans (h1 i hi).1, (pk_uLn (by omega)).trans (h1 i hi).2⟩) ((pk_uLn (by omega)).trans h2) ((pk_uLn (by omega)).trans h3) (fun i hi hi' => ?_)
      · rw [show M + 1 + (min la lb - c) = M + 1 + (min la lb - (c + 1)) + 1 by omega] at hh
        exact hh
      · by_cases e : i = c
        · subst e
          rw [show M + min la lb - i = M + 1 + (min la lb - (i + 1)) by omega, pk_uLs, pk_uLs]
          exact ⟨rfl, rfl⟩
        · rw [pk_uLn (by omega), pk_uLn (by omega)]
          exact h4 i (by omega) hi'
  have fin : ∀ c, c = min la lb → wY_compare_222 post J (yy_t κ (nI j)) (yy_t κ (nI j')) yma ypo yhe yvm yin yfi yde yap yas yto yan yco yti yna yac yen yic (c + 1) (nI (M + 1)) (nI c - 1) o l kS d pl ys yk yn yp yf yo yi yw ya y1 y2 yK yW yL yq nm nv no yA (vp_updL lf M (yy_t 3 (nI la))) (vp_updL rt M (yy_t 3 (nI lb))) iK iN := by
    intro c hc
    have := k222 c (vp_updL lf M (yy_t 3 (nI la))) (vp_updL rt M (yy_t 3 (nI lb))) (by omega) (fun i hi => ⟨pk_uLn (by omega), pk_uLn (by omega)⟩) pk_uLs pk_uLs (fun i hi hi' => absurd hi' (by omega))
    rw [show M + 1 + (min la lb - c) = M + 1 by omega] at this
    exact this
  unfold wY_compare_129
  rw [eM]
  refine br_t rfl (br_f (nI_ge (a := 3) (by omega) (by omega)) ?_)
  refine ym_lengthOf hj ?_
  rw [el]
  refine ym_thing (κ := 3) (by omega) ⟨iM, nm_e (ym_lengthOf hj' ?_)⟩
  rw [el']
  refine ym_thing (κ := 3) (by omega) ⟨iM, nm_e (nm_r (nI_1 M) (ym_lengthOf hj (ym_lengthOf hj' ?_)))⟩
  rw [el, el']
  refine pk_le lb la (fun z => ym_lengthOf hj' ?_) (fun z => ym_lengthOf hj ?_)
  · rw [el']
    exact nm_e ⟨_, fin lb (by omega)⟩
  · rw [el]
    exact nm_e ⟨_, fin la (by omega)⟩
theorem oo_sg_i {a b : Nat} (ha : a ≤ 10) (hb : b ≤ 10) : (if nI b ≤ nI a then (if nI a ≤ nI b then (0 : Int32) else 1) else -1) = oo_sg a b := by
  unfold oo_sg
  rcases Nat.lt_trichotomy a b with z | z | z
  · rw [if_neg (nI_ge z (by omega)), if_pos z]
  · subst z
    rw [if_pos (Int32.le_refl _), if_pos (Int32.le_refl _), if_neg (by omega), if_neg (by omega)]
  · rw [if_pos (nI_le (by omega) (by omega)), if_neg (nI_ge z (by omega)), if_neg (by omega), if_pos z]
theorem yc_len {yma ypo yhe yvm : Int32} {yin : Int64} {yfi yde yap yas yto : Int32} {yan : Int64} {yco yti yna yac yen yic : Int32} {o l kS d : Nat → Int32} {pl ys : Nat → Int64} {yk yn yp yf yo : Nat → Int32} {yi : Nat → Int64} {yw ya y1 y2 : Nat → Int32} {yK : Nat → Int64} {yW : Nat → Int32} {yL : Nat → Int64} {yq nm : Nat → Int32} {nv : Nat → Int64} {no : Nat → Int32} {yA lf rt : Nat → Int64} {iK iN : Nat → Int32} {post : Int32 → SY → Prop} {n M la lb : Nat} (hM : M < 300) (hla : la ≤ 10) (hlb : lb ≤ 10) (e1 : lf M = yy_t 3 (nI la)) (e2 : rt M = yy_t 3 (nI lb))
    (h1 : ¬ oo_sg la lb = 0 → post (oo_sg la lb) (yma, ypo, yhe, yvm, yin, yfi, yde, yap, yas, yto, yan, yco, yti, yna, yac, yen, yic, o, l, kS, d, pl, ys, yk, yn, yp, yf, yo, yi, yw, ya, y1, y2, yK, yW, yL, yq, nm, nv, no, yA, lf, rt, iK, iN)) (h0 : oo_sg la lb = 0 → wY_compare_17 post yma ypo yhe yvm yin yfi yde yap yas yto yan yco yti yna yac yen yic n (nI M) o l kS d pl ys yk yn yp yf yo yi yw ya y1 y2 yK yW yL yq nm nv no yA lf rt iK iN) : wY_compare_17 post yma ypo yhe yvm yin yfi yde yap yas yto yan yco yti yna yac yen yic (n + 1) (nI (M + 1)) o l kS d pl ys yk yn yp yf yo yi yw ya y1 y2 yK yW yL yq nm nv no yA lf rt iK iN := by
  have iM : vp_in (nI M) 300 := vp_in_nI hM (by omega)
  unfold wY_compare_17
  refine br_f (nI_nle (by omega) (by omega)) (nm_r (pk_m1 M) ?_)
  rw [nI_clamp (show M < 2 ^ 31 by omega), e1, e2]
  refine ⟨iM, nm_e ⟨iM, nm_e (ym_sort (by omega) (ym_sort (by omega) (ym_sign ?_)))⟩⟩
  rw [if_pos (Int32.le_refl _), if_pos (Int32.le_refl _)]
  refine br_t rfl (br_t rfl ?_)
  rw [yy_xt, yy_xt]
  refine ym_sign ?_
  rw [oo_sg_i hla hlb]
  have fin : wY_compare_129 post (wY_compare_17 post yma ypo yhe yvm yin yfi yde yap yas yto yan yco yti yna yac yen yic n) (nI M) (yy_t 3 (nI la)) (yy_t 3 (nI lb)) (nI 3) (oo_sg la lb) yma ypo yhe yvm yin yfi yde yap yas yto yan yco yti yna yac yen yic o l kS d pl ys yk yn yp yf yo yi yw ya y1 y2 yK yW yL yq nm nv no yA lf rt iK iN := by
    unfold wY_compare_129
    exact br_c (fun z => br_t (Int32.le_refl _) (h0 z)) (fun z => h1 z)
  unfold wY_compare_91
  refine br_c (fun z => br_f (by decide) ?_) (fun z => ?_)
  · unfold wY_compare_127
    exact fin
  · unfold wY_compare_127
    exact fin
