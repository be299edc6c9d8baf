/-! ===== Y: values that are made ===== -/
theorem yk_keys {yma ypo yhe yvm : Int32} {yin : Int64} {yfi yde yap yas yto : Int32} {yan : Int64} {yco yti yna yac yen yic : Int32} {o l kS d : Nat → Int32} {pl ys : Nat → Int64} {yk yn yp yf yo : Nat → Int32} {yi : Nat → Int64} {yw ya y1 y2 : Nat → Int32} {yK : Nat → Int64} {yW : Nat → Int32} {yL : Nat → Int64} {yq nm : Nat → Int32} {nv : Nat → Int64} {no : Nat → Int32} {yA lf rt : Nat → Int64} {iK iN : Nat → Int32} {post : SY → Prop} {κ j z m a pd mk : Nat} {cn ke : Nat → Nat} (hκ : κ = 4 ∨ κ = 5) (hj : j < 760) (el : κ = 4 → l j = nI z) (ek : κ = 5 → kS j = nI m ∧ m < 256) (hz : z ≤ 10) (c0 : cn 0 = 0) (c10 : cn 10 = z)
    (hon : ∀ k, k < 10 → ((κ = 4 → k < z) ∧ (κ = 5 → m / 2 ^ k % 2 = 1) ∧ cn (k + 1) = cn k + 1 ∧ ke (cn k) = k) ∨ ((κ = 4 → z ≤ k) ∧ (κ = 5 → m / 2 ^ k % 2 = 0) ∧ cn (k + 1) = cn k))
    (ea : yas = nI (a + 1)) (ep : ypo = nI pd) (hpd : pd + 10 ≤ 8200) (em : yma = nI mk) (hm : mk < 760)
    (hp : ∀ pl' : Nat → Int64, (∀ i, i < pd → pl' i = pl i) → (∀ i, i < z → pl' (pd + i) = yy_t 3 (nI (ke i))) → post ((nI (mk + 1)), (nI (pd + z)), yhe, yvm, yin, yfi, yde, yap, (nI a), 0, (yy_t 4 (nI mk)), yco, yti, yna, yac, yen, yic, (upd o mk (nI pd)), (upd l mk (nI z)), (upd kS mk 0), (upd d mk (nI 1)), pl', ys, yk, yn, yp, yf, yo, yi, yw, ya, y1, y2, yK, yW, yL, yq, nm, nv, no, yA, lf, rt, iK, iN)) : wpY_tellKeys post (yma, ypo, yhe, yvm, yin, yfi, yde, yap, yas, yto, yan, yco, yti, yna, yac, yen, yic, o, l, kS, d, pl, ys, yk, yn, yp, yf, yo, yi, yw, ya, y1, y2, yK, yW, yL, yq, nm, nv, no, yA, lf, rt, iK, iN) (yy_t κ (nI j)) (nI κ) := by
  have hcn : ∀ k, k ≤ 10 → cn k ≤ k := by
    intro k
    induction k with
    | zero => intro _; omega
    | succ k ih =>
      intro hk
      have := ih (by omega)
      rcases hon k (by omega) with ⟨_, _, w, _⟩ | ⟨_, _, w⟩ <;> omega
  have hmx : vv_mx (fun _ => 0) z = 0 := by
    have := vv_mx_le (f := fun _ => 0) (b := 0) (n := z) (fun _ _ => Nat.le_refl _)
    omega
  have k21 : ∀ r k (pl' : Nat → Int64), k + r = 10 → (∀ i, i < pd → pl' i = pl i) → (∀ i, i < cn k → pl' (pd + i) = yy_t 3 (nI (ke i))) →
      wY_tellKeys_21 post (yy_t κ (nI j)) (nI κ) (nI pd) (nI mk) yhe yvm yin yfi yde yap yas yto yan yco yti yna yac yen yic (r + 1) (nI k) (nI (pd + cn k)) o l kS d pl' ys yk yn yp yf yo yi yw ya y1 y2 yK yW yL yq nm nv no yA lf rt iK iN := by
    intro r
    induction r with
    | zero =>
      intro k pl' hk hlo hhi
      have hk' : k = 10 := by omega
      subst hk'
      rw [c10] at hhi ⊢
      unfold wY_tellKeys_21
      rw [pk_sub (show pd ≤ pd + z by omega), show pd + z - pd = z by omega]
      refine br_t (nI_le (a := 10) (Nat.le_refl _) (by omega)) ?_
      refine ym_compose (κ := 4) (e := fun _ => 0) rfl hm (by omega) hz (by omega) (fun i hi => ?_) ?_
      · rw [hhi i hi]
        exact ⟨by omega, 3, _, by omega, rfl, Or.inl ⟨by omega, rfl⟩⟩
      · rw [hmx]
        exact yr_tell ea (hp pl' hlo hhi)
    | succ r ih =>
      intro k pl' hk hlo hhi
      have hck := hcn k (by omega)
      have off : cn (k + 1) = cn k → wY_tellKeys_72 post (wY_tellKeys_21 post (yy_t κ (nI j)) (nI κ) (nI pd) (nI mk) yhe yvm yin yfi yde yap yas yto yan yco yti yna yac yen yic (r + 1)) (yy_t κ (nI j)) (nI κ) (nI pd) (nI k) 0 (nI mk) (nI (pd + cn k)) yhe yvm yin yfi yde yap yas yto yan yco yti yna yac yen yic o l kS d pl' ys yk yn yp yf yo yi yw ya y1 y2 yK yW yL yq nm nv no yA lf rt iK iN := by
        intro e
        unfold wY_tellKeys_72
        have := ih (k + 1) pl' (by omega) hlo (by rw [e]; exact hhi)
        rw [e] at this
        exact br_t rfl (nm_r (nI_1 k) this)
      have on : cn (k + 1) = cn k + 1 → ke (cn k) = k → wY_tellKeys_72 post (wY_tellKeys_21 post (yy_t κ (nI j)) (nI κ) (nI pd) (nI mk) yhe yvm yin yfi yde yap yas yto yan yco yti yna yac yen yic (r + 1)) (yy_t κ (nI j)) (nI κ) (nI pd) (nI k) 1 (nI mk) (nI (pd + cn k)) yhe yvm yin yfi yde yap yas yto yan yco yti yna yac yen yic o l kS d pl' ys yk yn yp yf yo yi yw ya y1 y2 yK yW yL yq nm nv no yA lf rt iK iN := by
        intro e e'
        unfold wY_tellKeys_72
        rw [nI_clamp (show pd + cn k < 2 ^ 31 by omega)]
        have := ih (k + 1) (vp_updL pl' (pd + cn k) (yy_t 3 (nI k))) (by omega) (fun i hi => (pk_uLn (by omega)).trans (hlo i hi)) (fun i hi => ?_)
        · rw [e, ← Nat.add_assoc] at this
          exact br_f (by decide) (ym_thing (κ := 3) (by omega) ⟨vp_in_nI (by omega) (by omega), nm_e (nm_r (nI_1 _) (nm_r (nI_1 k) this))⟩)
        · by_cases ei : i = cn k
          · subst ei
            rw [pk_uLs, e']
          · rw [pk_uLn (by omega)]
            exact hhi i (by omega)
      unfold wY_tellKeys_21
      refine br_f (nI_ge (b := 10) (by omega) (by omega)) (pk_eq κ 4 (fun e4 => ym_lengthOf hj ?_) (fun n4 => ?_))
      · rw [el e4]
        refine pk_le z k (fun w => ?_) (fun w => ?_)
        · rcases hon k (by omega) with ⟨w1, _⟩ | ⟨_, _, w1⟩
          · have := w1 e4; omega
          · exact off w1
        · rcases hon k (by omega) with ⟨_, _, w1, w2⟩ | ⟨w1, _⟩
          · exact on w1 w2
          · have := w1 e4; omega
      · obtain ⟨m1, m2⟩ := ek (by omega)
        rw [yy_xt, nI_clamp (show j < 2 ^ 31 by omega), m1, kb_bit (by omega) (by omega)]
        refine ⟨vp_in_nI hj (by omega), pk_eq (m / 2 ^ k % 2) 1 (fun w => ?_) (fun w => ?_)⟩
        · rcases hon k (by omega) with ⟨_, _, w1, w2⟩ | ⟨_, w1, _⟩
          · exact on w1 w2
          · have := w1 (by omega); omega
        · rcases hon k (by omega) with ⟨_, w1, _⟩ | ⟨_, _, w1⟩
          · have := w1 (by omega); omega
          · exact off w1
  unfold wpY_tellKeys
  dsimp only
  have := k21 10 0 pl (by omega) (fun _ _ => rfl) (fun i hi => absurd hi (by omega))
  rw [c0, show pd + 0 = pd from rfl, ← em] at this
  rw [← ep] at this
  exact br_t (nI_le (a := 4) (by omega) (by omega)) ⟨_, this⟩
theorem yk_keys2 {yma ypo yhe yvm : Int32} {yin : Int64} {yfi yde yap yas yto : Int32} {yan : Int64} {yco yti yna yac yen yic : Int32} {o l kS d : Nat → Int32} {pl ys : Nat → Int64} {yk yn yp yf yo : Nat → Int32} {yi : Nat → Int64} {yw ya y1 y2 : Nat → Int32} {yK : Nat → Int64} {yW : Nat → Int32} {yL : Nat → Int64} {yq nm : Nat → Int32} {nv : Nat → Int64} {no : Nat → Int32} {yA lf rt : Nat → Int64} {iK iN : Nat → Int32} {post : SY → Prop} {κ a : Nat} {w : Int64} (hκ : κ < 4) (ea : yas = nI (a + 1)) (hp : post (yma, ypo, yhe, yvm, yin, yfi, yde, yap, (nI a), 2, 0, yco, yti, yna, yac, yen, yic, o, l, kS, d, pl, ys, yk, yn, yp, yf, yo, yi, yw, ya, y1, y2, yK, yW, yL, yq, nm, nv, no, yA, lf, rt, iK, iN)) : wpY_tellKeys post (yma, ypo, yhe, yvm, yin, yfi, yde, yap, yas, yto, yan, yco, yti, yna, yac, yen, yic, o, l, kS, d, pl, ys, yk, yn, yp, yf, yo, yi, yw, ya, y1, y2, yK, yW, yL, yq, nm, nv, no, yA, lf, rt, iK, iN) w (nI κ) := by
  unfold wpY_tellKeys
  dsimp only
  exact br_f (nI_ge (b := 4) hκ (by omega)) (yr_tell ea hp)
theorem yk_objects {yma ypo yhe yvm : Int32} {yin : Int64} {yfi yde yap yas yto : Int32} {yan : Int64} {yco yti yna yac yen yic : Int32} {o l kS d : Nat → Int32} {pl ys : Nat → Int64} {yk yn yp yf yo : Nat → Int32} {yi : Nat → Int64} {yw ya y1 y2 : Nat → Int32} {yK : Nat → Int64} {yW : Nat → Int32} {yL : Nat → Int64} {yq nm : Nat → Int32} {nv : Nat → Int64} {no : Nat → Int32} {yA lf rt : Nat → Int64} {iK iN : Nat → Int32} {post : SY → Prop} {j j' ml mr oa ob a pd mk : Nat} {e : Nat → Nat} (hj : j < 760) (hj' : j' < 760) (ek : kS j = nI ml) (ek' : kS j' = nI mr) (hml : ml < 256) (hmr : mr < 256) (eo : o j = nI oa) (eo' : o j' = nI ob) (ho : oa + vv_pc ml 8 ≤ 8200) (ho' : ob + vv_pc mr 8 ≤ 8200) (hopd : oa + vv_pc ml 8 ≤ pd) (hopd' : ob + vv_pc mr 8 ≤ pd)
    (ea : yas = nI (a + 1)) (ep : ypo = nI pd) (hpd : pd + 10 ≤ 8200) (em : yma = nI mk) (hm : mk < 760)
    (hc : ∀ i, i < vv_pc (ml ||| mr) 8 → yd_is d (if mr / 2 ^ ky_k (ml ||| mr) i 8 % 2 = 1 then pl (ob + vv_pc mr (ky_k (ml ||| mr) i 8)) else pl (oa + vv_pc ml (ky_k (ml ||| mr) i 8))) (e i))
    (hp : ∀ pl' : Nat → Int64, (∀ i, i < pd → pl' i = pl i) → (∀ i, i < vv_pc (ml ||| mr) 8 → pl' (pd + i) = if mr / 2 ^ ky_k (ml ||| mr) i 8 % 2 = 1 then pl (ob + vv_pc mr (ky_k (ml ||| mr) i 8)) else pl (oa + vv_pc ml (ky_k (ml ||| mr) i 8))) →
      post ((nI (mk + 1)), (nI (pd + vv_pc (ml ||| mr) 8)), yhe, yvm, yin, yfi, yde, yap, (nI a), 0, (yy_t 5 (nI mk)), yco, yti, yna, yac, yen, yic, (upd o mk (nI pd)), (upd l mk (nI (vv_pc (ml ||| mr) 8))), (upd kS mk (nI (ml ||| mr))), (upd d mk (nI (vv_mx e (vv_pc (ml ||| mr) 8) + 1))), pl', ys, yk, yn, yp, yf, yo, yi, yw, ya, y1, y2, yK, yW, yL, yq, nm, nv, no, yA, lf, rt, iK, iN)) : wpY_tellObjects post (yma, ypo, yhe, yvm, yin, yfi, yde, yap, yas, yto, yan, yco, yti, yna, yac, yen, yic, o, l, kS, d, pl, ys, yk, yn, yp, yf, yo, yi, yw, ya, y1, y2, yK, yW, yL, yq, nm, nv, no, yA, lf, rt, iK, iN) (yy_t 5 (nI j)) (yy_t 5 (nI j')) := by
  have hor := or_lt hml hmr
  have h8 := vv_pc_8' (m := ml ||| mr)
  have k27 : ∀ r k (pl' : Nat → Int64), k + r = 8 → (∀ i, i < pd → pl' i = pl i) → (∀ i, i < vv_pc (ml ||| mr) k → pl' (pd + i) = if mr / 2 ^ ky_k (ml ||| mr) i 8 % 2 = 1 then pl (ob + vv_pc mr (ky_k (ml ||| mr) i 8)) else pl (oa + vv_pc ml (ky_k (ml ||| mr) i 8))) →
      wY_tellObjects_27 post (yy_t 5 (nI j)) (yy_t 5 (nI j')) (nI ml) (nI mr) (nI pd) (nI mk) yhe yvm yin yfi yde yap yas yto yan yco yti yna yac yen yic (r + 1) (nI k) (nI (pd + vv_pc (ml ||| mr) k)) o l kS d pl' ys yk yn yp yf yo yi yw ya y1 y2 yK yW yL yq nm nv no yA lf rt iK iN := by
    intro r
    induction r with
    | zero =>
      intro k pl' hk hlo hhi
      have hk' : k = 8 := by omega
      subst hk'
      unfold wY_tellObjects_27
      rw [pk_sub (show pd ≤ pd + vv_pc (ml ||| mr) 8 by omega), show pd + vv_pc (ml ||| mr) 8 - pd = vv_pc (ml ||| mr) 8 by omega, nx_or]
      refine br_t (nI_le (a := 8) (Nat.le_refl _) (by omega)) ?_
      refine ym_compose (κ := 5) (e := e) rfl hm (by omega) (by omega) (by omega) (fun i hi => ?_) (yr_tell ea (hp pl' hlo hhi))
      rw [hhi i hi]
      exact hc i hi
    | succ r ih =>
      intro k pl' hk hlo hhi
      have ul := vv_pc_u (m := ml) (a := k + 1) (b := 8) (by omega)
      have ur := vv_pc_u (m := mr) (a := k + 1) (b := 8) (by omega)
      have uo := vv_pc_u (m := ml ||| mr) (a := k + 1) (b := 8) (by omega)
      have sl := vv_pc_s ml k
      have sr := vv_pc_s mr k
      have so := vv_pc_s (ml ||| mr) k
      have ob' := or_bit ml mr k
      have k84 : (ml ||| mr) / 2 ^ k % 2 = 1 → ∀ w : Int64, w = (if mr / 2 ^ k % 2 = 1 then pl (ob + vv_pc mr k) else pl (oa + vv_pc ml k)) → wY_tellObjects_84 post (wY_tellObjects_27 post (yy_t 5 (nI j)) (yy_t 5 (nI j')) (nI ml) (nI mr) (nI pd) (nI mk) yhe yvm yin yfi yde yap yas yto yan yco yti yna yac yen yic (r + 1)) (yy_t 5 (nI j)) (yy_t 5 (nI j')) (nI ml) (nI mr) (nI pd) (nI k) w (nI (pd + vv_pc (ml ||| mr) k)) (nI mk) (nI (pd + vv_pc (ml ||| mr) k)) yhe yvm yin yfi yde yap yas yto yan yco yti yna yac yen yic o l kS d pl' ys yk yn yp yf yo yi yw ya y1 y2 yK yW yL yq nm nv no yA lf rt iK iN := by
        intro hb w hw
        have hky := ky_u hor (show k < 8 by omega) hb rfl
        unfold wY_tellObjects_84
        rw [nI_clamp (show pd + vv_pc (ml ||| mr) k < 2 ^ 31 by omega)]
        have := ih (k + 1) (vp_updL pl' (pd + vv_pc (ml ||| mr) k) w) (by omega) (fun i hi => (pk_uLn (by omega)).trans (hlo i hi)) (fun i hi => ?_)
        · rw [so, hb, ← Nat.add_assoc] at this
          exact ⟨vp_in_nI (by omega) (by omega), nm_e (nm_r (nI_1 _) (nm_r (nI_1 k) this))⟩
        · by_cases ei : i = vv_pc (ml ||| mr) k
          · subst ei
            rw [pk_uLs, hky]
            exact hw
          · rw [pk_uLn (by omega)]
            exact hhi i (by omega)
      unfold wY_tellObjects_27
      rw [nx_or, kb_bit (show ml ||| mr < 2 ^ 31 by omega) (show k < 32 by omega), kb_bit (show mr < 2 ^ 31 by omega) (show k < 32 by omega)]
      refine br_f (nI_ge (b := 8) (by omega) (by omega)) (pk_eq ((ml ||| mr) / 2 ^ k % 2) 1 (fun hb => pk_eq (mr / 2 ^ k % 2) 1 (fun e1 => ?_) (fun n1 => ?_)) (fun hb => ?_))
      · refine yl_fieldOf hj' ek' hmr (by omega) eo' (by omega) (fun _ => ⟨by omega, k84 hb _ ?_⟩) (fun z => absurd z (by omega))
        rw [if_pos e1]
        exact hlo _ (by omega)
      · have e2 : ml / 2 ^ k % 2 = 1 := by
          by_cases z : ml / 2 ^ k % 2 = 1
          · exact z
          · rw [ob', if_neg (by omega)] at hb
            omega
        refine yl_fieldOf hj ek hml (by omega) eo (by omega) (fun _ => ⟨by omega, k84 hb _ ?_⟩) (fun z => absurd z (by omega))
        rw [if_neg n1]
        exact hlo _ (by omega)
      · have h0 : (ml ||| mr) / 2 ^ k % 2 = 0 := by omega
        have := ih (k + 1) pl' (by omega) hlo (by rw [so, h0]; exact hhi)
        rw [so, h0, Nat.add_zero] at this
        exact nm_r (nI_1 k) this
  unfold wpY_tellObjects
  dsimp only
  rw [yy_xt, yy_xt, nI_clamp (show j < 2 ^ 31 by omega), nI_clamp (show j' < 2 ^ 31 by omega), ek, ek']
  have := k27 8 0 pl (by omega) (fun _ _ => rfl) (fun i hi => absurd hi (by show ¬ i < 0; omega))
  rw [show pd + vv_pc (ml ||| mr) 0 = pd from rfl, ← em] at this
  rw [← ep] at this
  exact ⟨vp_in_nI hj (by omega), nm_e ⟨vp_in_nI hj' (by omega), nm_e ⟨_, this⟩⟩⟩
