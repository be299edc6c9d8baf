theorem yk_among {yma ypo yhe yvm : Int32} {yin : Int64} {yfi yde yap yas yto : Int32} {yan : Int64} {yco yti yna yac yen yic : Int32} {o l kS d : Nat → Int32} {pl ys : Nat → Int64} {yk yn yp yf yo : Nat → Int32} {yi : Nat → Int64} {yw ya y1 y2 : Nat → Int32} {yK : Nat → Int64} {yW : Nat → Int32} {yL : Nat → Int64} {yq nm : Nat → Int32} {nv : Nat → Int64} {no : Nat → Int32} {yA lf rt : Nat → Int64} {iK iN : Nat → Int32} {V : Nat → Prop} {K N Z D Im W P : Nat → Int32} {post : Int32 → SY → Prop} {mk pd s κ j oa lb : Nat} {v : Int64} {tc : Nat → Nat} (hx : vv_ox V K N Z D Im W P) (hy : vv_cy mk pd o l pl) (hs : s < 653) (hR : vv_R V K N Z D P mk o l kS d pl (nI s) v) (hj : j < 760) (eo : o j = nI oa) (el : l j = nI lb) (hlb : lb ≤ 10) (ho : oa + lb ≤ 8200)
    (hc : ∀ i, i < lb → tc i < 653 ∧ vv_R V K N Z D P mk o l kS d pl (nI (tc i)) (pl (oa + i)))
    (h1 : (∃ i, i < lb ∧ oo_c (oo_h K N) Z P 4 s (tc i) = 0) → ∀ lf' rt' : Nat → Int64, post 1 (yma, ypo, yhe, yvm, yin, yfi, yde, yap, yas, yto, yan, yco, yti, yna, yac, yen, yic, o, l, kS, d, pl, ys, yk, yn, yp, yf, yo, yi, yw, ya, y1, y2, yK, yW, yL, yq, nm, nv, no, yA, lf', rt', iK, iN)) (h0 : (∀ i, i < lb → ¬ oo_c (oo_h K N) Z P 4 s (tc i) = 0) → ∀ lf' rt' : Nat → Int64, post 0 (yma, ypo, yhe, yvm, yin, yfi, yde, yap, yas, yto, yan, yco, yti, yna, yac, yen, yic, o, l, kS, d, pl, ys, yk, yn, yp, yf, yo, yi, yw, ya, y1, y2, yK, yW, yL, yq, nm, nv, no, yA, lf', rt', iK, iN)) : wpY_isAmong post (yma, ypo, yhe, yvm, yin, yfi, yde, yap, yas, yto, yan, yco, yti, yna, yac, yen, yic, o, l, kS, d, pl, ys, yk, yn, yp, yf, yo, yi, yw, ya, y1, y2, yK, yW, yL, yq, nm, nv, no, yA, lf, rt, iK, iN) v (yy_t κ (nI j)) := by
  have key : ∀ r i (lf rt : Nat → Int64), i + r = lb → (∀ i', i' < i → ¬ oo_c (oo_h K N) Z P 4 s (tc i') = 0) → wY_isAmong_3 post v (yy_t κ (nI j)) (r + 1) (nI i) yma ypo yhe yvm yin yfi yde yap yas yto yan yco yti yna yac yen yic o l kS d pl ys yk yn yp yf yo yi yw ya y1 y2 yK yW yL yq nm nv no yA lf rt iK iN := by
    intro r
    induction r with
    | zero =>
      intro i lf rt hi hno
      unfold wY_isAmong_3
      refine ym_lengthOf hj ?_
      rw [el]
      exact br_t (nI_le (by omega) (by omega)) (h0 (fun i' hi' => hno i' (by omega)) lf rt)
    | succ r ih =>
      intro i lf rt hi hno
      obtain ⟨c1, c2⟩ := hc i (by omega)
      unfold wY_isAmong_3
      refine ym_lengthOf hj ?_
      rw [el]
      refine br_f (nI_ge (by omega) (by omega)) (ym_place hj eo (by omega) (ym_compare hx hy hs c1 hR c2 (fun lf' rt' => ?_)))
      refine br_c (fun z => h1 ⟨i, by omega, z⟩ lf' rt') (fun z => nm_r (nI_1 i) (ih (i + 1) lf' rt' (by omega) (fun i' hi' => ?_)))
      by_cases e : i' = i
      · subst e; exact z
      · exact hno i' (by omega)
  unfold wpY_isAmong
  dsimp only
  exact ⟨_, key lb 0 lf rt (by omega) (fun i hi => absurd hi (by omega))⟩
theorem yk_join {yma ypo yhe yvm : Int32} {yin : Int64} {yfi yde yap yas yto : Int32} {yan : Int64} {yco yti yna yac yen yic : Int32} {o l kS d : Nat → Int32} {pl ys : Nat → Int64} {yk yn yp yf yo : Nat → Int32} {yi : Nat → Int64} {yw ya y1 y2 : Nat → Int32} {yK : Nat → Int64} {yW : Nat → Int32} {yL : Nat → Int64} {yq nm : Nat → Int32} {nv : Nat → Int64} {no : Nat → Int32} {yA lf rt : Nat → Int64} {iK iN : Nat → Int32} {post : SY → Prop} {j j' oa la ob lb a pd mk : Nat} {e : Nat → Nat} (hj : j < 760) (hj' : j' < 760) (eo : o j = nI oa) (el : l j = nI la) (eo' : o j' = nI ob) (el' : l j' = nI lb) (hla : la ≤ 10) (hlb : lb ≤ 10) (ho : oa + la ≤ pd) (ho' : ob + lb ≤ pd)
    (ea : yas = nI (a + 1)) (ep : ypo = nI pd) (hpd : pd + 10 ≤ 8200) (em : yma = nI mk) (hm : mk < 760)
    (hc : la + lb ≤ 10 → ∀ i, i < la + lb → yd_is d (if i < la then pl (oa + i) else pl (ob + (i - la))) (e i))
    (h2 : 10 < la + lb → post (yma, ypo, yhe, yvm, yin, yfi, yde, yap, (nI a), 2, 0, yco, yti, yna, yac, yen, yic, o, l, kS, d, pl, ys, yk, yn, yp, yf, yo, yi, yw, ya, y1, y2, yK, yW, yL, yq, nm, nv, no, yA, lf, rt, iK, iN))
    (hp : la + lb ≤ 10 → ∀ pl' : Nat → Int64, (∀ i, i < pd → pl' i = pl i) → (∀ i, i < la + lb → pl' (pd + i) = if i < la then pl (oa + i) else pl (ob + (i - la))) →
      post ((nI (mk + 1)), (nI (pd + (la + lb))), yhe, yvm, yin, yfi, yde, yap, (nI a), 0, (yy_t 4 (nI mk)), yco, yti, yna, yac, yen, yic, (upd o mk (nI pd)), (upd l mk (nI (la + lb))), (upd kS mk 0), (upd d mk (nI (vv_mx e (la + lb) + 1))), pl', ys, yk, yn, yp, yf, yo, yi, yw, ya, y1, y2, yK, yW, yL, yq, nm, nv, no, yA, lf, rt, iK, iN)) : wpY_tellArrays post (yma, ypo, yhe, yvm, yin, yfi, yde, yap, yas, yto, yan, yco, yti, yna, yac, yen, yic, o, l, kS, d, pl, ys, yk, yn, yp, yf, yo, yi, yw, ya, y1, y2, yK, yW, yL, yq, nm, nv, no, yA, lf, rt, iK, iN) (nI 32) (yy_t 4 (nI j)) (yy_t 4 (nI j')) := by
  unfold wpY_tellArrays
  dsimp only
  refine ym_lengthOf hj (br_t rfl (ym_lengthOf hj' ?_))
  rw [el, el']
  unfold wY_tellArrays_21
  rw [nI_add]
  refine nm_e (pk_le (la + lb) 10 (fun hle => ?_) (fun hgt => yr_tell ea (h2 hgt)))
  have k47 : ∀ r i (pl' : Nat → Int64), i + r = la + lb → (∀ k, k < pd → pl' k = pl k) → (∀ k, k < i → pl' (pd + k) = if k < la then pl (oa + k) else pl (ob + (k - la))) →
      wY_tellArrays_47 post (nI 32) (yy_t 4 (nI j)) (yy_t 4 (nI j')) (nI (la + lb)) (nI pd) (r + 1) (nI i) yma (nI (pd + i)) yhe yvm yin yfi yde yap yas yto yan yco yti yna yac yen yic o l kS d pl' ys yk yn yp yf yo yi yw ya y1 y2 yK yW yL yq nm nv no yA lf rt iK iN := by
    intro r
    induction r with
    | zero =>
      intro i pl' hi hlo hhi
      have hi' : i = la + lb := by omega
      subst hi'
      unfold wY_tellArrays_47
      rw [pk_sub (show pd ≤ pd + (la + lb) by omega), show pd + (la + lb) - pd = la + lb by omega]
      refine br_t (nI_le (Nat.le_refl _) (by omega)) (ym_compose (κ := 4) (e := e) em hm (by omega) hle (by omega) (fun k hk => ?_) (yr_tell ea (hp hle pl' hlo hhi)))
      rw [hhi k hk]
      exact hc hle k hk
    | succ r ih =>
      intro i pl' hi hlo hhi
      have k88 : ∀ w : Int64, w = (if i < la then pl (oa + i) else pl (ob + (i - la))) → wY_tellArrays_88 post (wY_tellArrays_47 post (nI 32) (yy_t 4 (nI j)) (yy_t 4 (nI j')) (nI (la + lb)) (nI pd) (r + 1)) (nI 32) (yy_t 4 (nI j)) (yy_t 4 (nI j')) (nI (la + lb)) (nI pd) (nI i) w yma (nI (pd + i)) yhe yvm yin yfi yde yap yas yto yan yco yti yna yac yen yic o l kS d pl' ys yk yn yp yf yo yi yw ya y1 y2 yK yW yL yq nm nv no yA lf rt iK iN := by
        intro w hw
        unfold wY_tellArrays_88
        refine br_t rfl ?_
        unfold wY_tellArrays_107
        rw [nI_clamp (show pd + i < 2 ^ 31 by omega)]
        refine ⟨vp_in_nI (by omega) (by omega), nm_e (nm_r (nI_1 _) (nm_r (nI_1 i) ?_))⟩
        refine ih (i + 1) (vp_updL pl' (pd + i) w) (by omega) (fun k hk => (pk_uLn (by omega)).trans (hlo k hk)) (fun k hk => ?_)
        by_cases ek : k = i
        · subst ek; rw [pk_uLs]; exact hw
        · rw [pk_uLn (by omega)]; exact hhi k (by omega)
      unfold wY_tellArrays_47
      refine br_f (nI_ge (by omega) (by omega)) (ym_lengthOf hj ?_)
      rw [el]
      refine pk_le la i (fun w => ym_lengthOf hj ?_) (fun w => ym_place hj eo (by omega) (k88 _ ?_))
      · rw [el, pk_sub w]
        refine ym_place hj' eo' (by omega) (k88 _ ?_)
        rw [if_neg (by omega)]
        exact hlo _ (by omega)
      · rw [if_pos w]
        exact hlo _ (by omega)
  have := k47 (la + lb) 0 pl (by omega) (fun _ _ => rfl) (fun i hi => absurd hi (by omega))
  rw [show pd + 0 = pd from rfl, ← ep] at this
  exact ⟨_, this⟩
theorem yk_minus {yma ypo yhe yvm : Int32} {yin : Int64} {yfi yde yap yas yto : Int32} {yan : Int64} {yco yti yna yac yen yic : Int32} {o l kS d : Nat → Int32} {pl ys : Nat → Int64} {yk yn yp yf yo : Nat → Int32} {yi : Nat → Int64} {yw ya y1 y2 : Nat → Int32} {yK : Nat → Int64} {yW : Nat → Int32} {yL : Nat → Int64} {yq nm : Nat → Int32} {nv : Nat → Int64} {no : Nat → Int32} {yA lf rt : Nat → Int64} {iK iN : Nat → Int32} {V : Nat → Prop} {K N Z D Im W P : Nat → Int32} {post : SY → Prop} {j j' oa la ob lb a pd mk : Nat} {e sc tc : Nat → Nat} {fb : Nat → Bool} (hx : vv_ox V K N Z D Im W P) (hy : vv_cy mk pd o l pl) (hj : j < 760) (hj' : j' < 760) (eo : o j = nI oa) (el : l j = nI la) (eo' : o j' = nI ob) (el' : l j' = nI lb) (hla : la ≤ 10) (hlb : lb ≤ 10) (ho : oa + la ≤ pd) (ho' : ob + lb ≤ pd)
    (ea : yas = nI (a + 1)) (ep : ypo = nI pd) (hpd : pd + 10 ≤ 8200) (em : yma = nI mk) (hm : mk < 760)
    (hs : ∀ i, i < la → sc i < 653 ∧ vv_R V K N Z D P mk o l kS d pl (nI (sc i)) (pl (oa + i))) (ht : ∀ i, i < lb → tc i < 653 ∧ vv_R V K N Z D P mk o l kS d pl (nI (tc i)) (pl (ob + i)))
    (hf : ∀ i, i < la → (fb i = true → ∃ k, k < lb ∧ oo_c (oo_h K N) Z P 4 (sc i) (tc k) = 0) ∧ (fb i = false → ∀ k, k < lb → ¬ oo_c (oo_h K N) Z P 4 (sc i) (tc k) = 0))
    (hc : ∀ i, i < wo_n fb la → yd_is d (pl (oa + wo_k fb i la)) (e i))
    (hp : ∀ pl' lf' rt' : Nat → Int64, (∀ i, i < pd → pl' i = pl i) → (∀ i, i < wo_n fb la → pl' (pd + i) = pl (oa + wo_k fb i la)) →
      post ((nI (mk + 1)), (nI (pd + wo_n fb la)), yhe, yvm, yin, yfi, yde, yap, (nI a), 0, (yy_t 4 (nI mk)), yco, yti, yna, yac, yen, yic, (upd o mk (nI pd)), (upd l mk (nI (wo_n fb la))), (upd kS mk 0), (upd d mk (nI (vv_mx e (wo_n fb la) + 1))), pl', ys, yk, yn, yp, yf, yo, yi, yw, ya, y1, y2, yK, yW, yL, yq, nm, nv, no, yA, lf', rt', iK, iN)) : wpY_tellArrays post (yma, ypo, yhe, yvm, yin, yfi, yde, yap, yas, yto, yan, yco, yti, yna, yac, yen, yic, o, l, kS, d, pl, ys, yk, yn, yp, yf, yo, yi, yw, ya, y1, y2, yK, yW, yL, yq, nm, nv, no, yA, lf, rt, iK, iN) (nI 33) (yy_t 4 (nI j)) (yy_t 4 (nI j')) := by
  have hwl := wo_le (fb := fb) la
  unfold wpY_tellArrays
  dsimp only
  refine ym_lengthOf hj (br_f (by decide) ?_)
  rw [el]
  unfold wY_tellArrays_21
  refine nm_r (show nI la + 0 = nI la from nI_add la 0) (br_t (nI_le (b := 10) hla (by omega)) ?_)
  have k47 : ∀ r i (pl' lf rt : Nat → Int64), i + r = la → (∀ k, k < pd → pl' k = pl k) → (∀ k, k < wo_n fb i → pl' (pd + k) = pl (oa + wo_k fb k la)) →
      wY_tellArrays_47 post (nI 33) (yy_t 4 (nI j)) (yy_t 4 (nI j')) (nI la) (nI pd) (r + 1) (nI i) yma (nI (pd + wo_n fb i)) yhe yvm yin yfi yde yap yas yto yan yco yti yna yac yen yic o l kS d pl' ys yk yn yp yf yo yi yw ya y1 y2 yK yW yL yq nm nv no yA lf rt iK iN := by
    intro r
    induction r with
    | zero =>
      intro i pl' lf rt hi hlo hhi
      have hi' : i = la := by omega
      subst hi'
      unfold wY_tellArrays_47
      rw [pk_sub (show pd ≤ pd + wo_n fb i by omega), show pd + wo_n fb i - pd = wo_n fb i by omega]
      refine br_t (nI_le (Nat.le_refl _) (by omega)) (ym_compose (κ := 4) (e := e) em hm (by omega) (by omega) (by omega) (fun k hk => ?_) (yr_tell ea (hp pl' lf rt hlo hhi)))
      rw [hhi k hk]
      exact hc k hk
    | succ r ih =>
      intro i pl' lf rt hi hlo hhi
      obtain ⟨s1, s2⟩ := hs i (by omega)
      obtain ⟨f1, f2⟩ := hf i (by omega)
      have hu := wo_u (fb := fb) (a := i + 1) (b := la) (by omega)
      have hsn := wo_s fb i
      have hyk : ∀ {s : Int32} {w : Int64}, vv_R V K N Z D P mk o l kS d pl s w → vv_R V K N Z D P mk o l kS d pl' s w := fun hR => vv_R_up hx hy (fun u hu => ⟨hu, rfl, rfl, rfl, rfl, fun _ _ => rfl⟩) (Nat.le_refl _) (fun j _ => ⟨rfl, rfl, rfl, rfl, fun a b _ _ _ hab i hi => hlo _ (by omega)⟩) hR
      have hy' : vv_cy mk pd o l pl' := by
        obtain ⟨y1', y2', y3'⟩ := hy
        refine ⟨y1', y2', fun q hq => ?_⟩
        obtain ⟨x1, x2, x3, x4, x5, x6, x7⟩ := y3' q hq
        exact ⟨x1, x2, x3, x4, x5, x6, fun k hk => by rw [hlo _ (by omega)]; exact x7 k hk⟩
      unfold wY_tellArrays_47
      refine br_f (nI_ge (by omega) (by omega)) (ym_lengthOf hj ?_)
      rw [el]
      refine br_f (nI_ge (by omega) (by omega)) (ym_place hj eo (by omega) ?_)
      unfold wY_tellArrays_88
      refine br_f (by decide) ?_
      rw [hlo _ (show oa + i < pd by omega)]
      refine yk_among (tc := tc) hx hy' s1 (hyk s2) hj' eo' el' hlb (by omega) (fun k hk => ⟨(ht k hk).1, by rw [hlo _ (by omega)]; exact hyk (ht k hk).2⟩) (fun hex lf' rt' => br_f (by decide) (nm_r (nI_1 i) ?_)) (fun hno lf' rt' => br_t rfl ?_)
      · have hb : fb i = true := by
          cases hb : fb i with
          | true => rfl
          | false =>
            obtain ⟨k, k1, k2⟩ := hex
            exact absurd k2 (f2 hb k k1)
        rw [hb, if_pos rfl, Nat.add_zero] at hsn
        have := ih (i + 1) pl' lf' rt' (by omega) hlo (by rw [hsn]; exact hhi)
        rw [hsn] at this
        exact this
      · have hb : fb i = false := by
          cases hb : fb i with
          | false => rfl
          | true =>
            obtain ⟨k, k1, k2⟩ := f1 hb
            exact absurd k2 (hno k k1)
        rw [hb, if_neg (by decide)] at hsn
        unfold wY_tellArrays_107
        rw [nI_clamp (show pd + wo_n fb i < 2 ^ 31 by omega)]
        have := ih (i + 1) (vp_updL pl' (pd + wo_n fb i) (pl (oa + i))) lf' rt' (by omega) (fun k hk => (pk_uLn (by omega)).trans (hlo k hk)) (fun k hk => ?_)
        · rw [hsn, ← Nat.add_assoc] at this
          exact ⟨vp_in_nI (by omega) (by omega), nm_e (nm_r (nI_1 _) (nm_r (nI_1 i) this))⟩
        · by_cases ek : k = wo_n fb i
          · subst ek
            rw [pk_uLs, wo_ku hb rfl la (by omega)]
          · rw [pk_uLn (by omega)]; exact hhi k (by omega)
  have := k47 la 0 pl lf rt (by omega) (fun _ _ => rfl) (fun i hi => absurd hi (by show ¬ i < 0; omega))
  rw [show pd + wo_n fb 0 = pd from rfl, ← ep] at this
  exact ⟨_, this⟩
