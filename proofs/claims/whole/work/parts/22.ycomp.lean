/-! ===== Y compares ===== -/
theorem ym_compareKeys {yma ypo yhe yvm : Int32} {yin : Int64} {yfi yde yap yas yto : Int32} {yan : Int64} {yco yti yna yac yen yic : Int32} {o l kS d : Nat → Int32} {pl ys : Nat → Int64} {yk yn yp yf yo : Nat → Int32} {yi : Nat → Int64} {yw ya y1 y2 : Nat → Int32} {yK : Nat → Int64} {yW : Nat → Int32} {yL : Nat → Int64} {yq nm : Nat → Int32} {nv : Nat → Int64} {no : Nat → Int32} {yA lf rt : Nat → Int64} {iK iN : Nat → Int32} {post : Int32 → Prop} {a b : Nat} (ha : a < 256) (hb : b < 256) (hp : post (oo_k a b)) : wpY_compareKeys post (yma, ypo, yhe, yvm, yin, yfi, yde, yap, yas, yto, yan, yco, yti, yna, yac, yen, yic, o, l, kS, d, pl, ys, yk, yn, yp, yf, yo, yi, yw, ya, y1, y2, yK, yW, yL, yq, nm, nv, no, yA, lf, rt, iK, iN) (nI a) (nI b) := by
  unfold wpY_compareKeys
  dsimp only
  unfold oo_k at hp
  refine pk_eq a b (fun e => ?_) (fun ne => ?_)
  · rw [if_pos e] at hp
    exact hp
  rw [if_neg ne] at hp
  have h0 : a ^^^ b ≠ 0 := by
    intro e
    apply ne
    apply Nat.eq_of_testBit_eq
    intro i
    have h := Nat.testBit_xor a b i
    rw [e, Nat.zero_testBit] at h
    revert h
    cases a.testBit i <;> cases b.testBit i <;> simp
  have hx := oo_x1 ha hb
  obtain ⟨_, t2, t3⟩ := oo_t1 _ hx h0
  rw [oo_x2] at t3
  have t4 : ∀ i, i < oo_lb 8 (a ^^^ b) → (a / 2 ^ i + b / 2 ^ i) % 2 = 0 := fun i hi => by
    rw [← oo_x2]
    exact oo_t2 _ hx i hi
  generalize oo_lb 8 (a ^^^ b) = lb at *
  have key : ∀ r i, i + r = lb → wY_compareKeys_9 post (nI a) (nI b) yma ypo yhe yvm yin yfi yde yap yas yto yan yco yti yna yac yen yic o l kS d pl ys yk yn yp yf yo yi yw ya y1 y2 yK yW yL yq nm nv no yA lf rt iK iN (r + 1) (nI i) := by
    intro r
    induction r with
    | zero =>
      intro i hi
      have hi' : i = lb := by omega
      subst hi'
      unfold wY_compareKeys_9
      rw [kb_bit (by omega) (by omega), kb_bit (by omega) (by omega)]
      refine pk_eq (a / 2 ^ i % 2) (b / 2 ^ i % 2) (fun e => absurd e (by omega)) (fun _ => ?_)
      refine pk_eq (a / 2 ^ i % 2) 1 (fun e => ?_) (fun e => ?_)
      · rw [if_pos e] at hp
        unfold wY_compareKeys_42
        refine br_f (by decide) ?_
        unfold wY_compareKeys_58
        rw [pk_shrN (by omega) _ i (s_l i (by omega))]
        refine pk_eq (b / 2 ^ i) 0 (fun z => ?_) (fun z => ?_) (ha := Nat.lt_of_le_of_lt (Nat.div_le_self _ _) (by omega))
        · rw [if_pos z] at hp
          unfold wY_compareKeys_72
          exact br_f (by decide) hp
        · rw [if_neg z] at hp
          unfold wY_compareKeys_72
          exact br_t rfl hp
      · rw [if_neg e] at hp
        unfold wY_compareKeys_42
        refine br_t rfl ?_
        unfold wY_compareKeys_58
        rw [pk_shrN (by omega) _ i (s_l i (by omega))]
        refine pk_eq (a / 2 ^ i) 0 (fun z => ?_) (fun z => ?_) (ha := Nat.lt_of_le_of_lt (Nat.div_le_self _ _) (by omega))
        · rw [if_pos z] at hp
          unfold wY_compareKeys_72
          exact br_t rfl hp
        · rw [if_neg z] at hp
          unfold wY_compareKeys_72
          exact br_f (by decide) hp
    | succ r ih =>
      intro i hi
      unfold wY_compareKeys_9
      rw [kb_bit (by omega) (by omega), kb_bit (by omega) (by omega)]
      have := t4 i (by omega)
      refine pk_eq (a / 2 ^ i % 2) (b / 2 ^ i % 2) (fun _ => nm_r (nI_1 i) (ih (i + 1) (by omega))) (fun e => absurd e (by omega))
  exact ⟨_, key lb 0 (by omega)⟩
theorem ym_sign {yma ypo yhe yvm : Int32} {yin : Int64} {yfi yde yap yas yto : Int32} {yan : Int64} {yco yti yna yac yen yic : Int32} {o l kS d : Nat → Int32} {pl ys : Nat → Int64} {yk yn yp yf yo : Nat → Int32} {yi : Nat → Int64} {yw ya y1 y2 : Nat → Int32} {yK : Nat → Int64} {yW : Nat → Int32} {yL : Nat → Int64} {yq nm : Nat → Int32} {nv : Nat → Int64} {no : Nat → Int32} {yA lf rt : Nat → Int64} {iK iN : Nat → Int32} {post : Int32 → Prop} {a b : Int32} (hp : post (if b ≤ a then (if a ≤ b then 0 else 1) else -1)) : wpY_sign post (yma, ypo, yhe, yvm, yin, yfi, yde, yap, yas, yto, yan, yco, yti, yna, yac, yen, yic, o, l, kS, d, pl, ys, yk, yn, yp, yf, yo, yi, yw, ya, y1, y2, yK, yW, yL, yq, nm, nv, no, yA, lf, rt, iK, iN) a b := by
  unfold wpY_sign
  dsimp only
  refine br_c (fun h => br_c (fun h' => ?_) (fun h' => ?_)) (fun h => ?_)
  · rw [if_pos h, if_pos h'] at hp; exact hp
  · rw [if_pos h, if_neg h'] at hp; exact hp
  · rw [if_neg h] at hp; exact hp
/-- the head of a pair, as Y compares it -/
theorem yc_129e {yma ypo yhe yvm : Int32} {yin : Int64} {yfi yde yap yas yto : Int32} {yan : Int64} {yco yti yna yac yen yic : Int32} {o l kS d : Nat → Int32} {pl ys : Nat → Int64} {yk yn yp yf yo : Nat → Int32} {yi : Nat → Int64} {yw ya y1 y2 : Nat → Int32} {yK : Nat → Int64} {yW : Nat → Int32} {yL : Nat → Int64} {yq nm : Nat → Int32} {nv : Nat → Int64} {no : Nat → Int32} {yA lf rt : Nat → Int64} {iK iN : Nat → Int32} {post : Int32 → SY → Prop} {n : Nat} {x5 : Int32} {a b : Int64} {x10 r : Int32} (hr : ¬ r = 0) (hp : post r (yma, ypo, yhe, yvm, yin, yfi, yde, yap, yas, yto, yan, yco, yti, yna, yac, yen, yic, o, l, kS, d, pl, ys, yk, yn, yp, yf, yo, yi, yw, ya, y1, y2, yK, yW, yL, yq, nm, nv, no, yA, lf, rt, iK, iN)) : wY_compare_129 post (wY_compare_17 post yma ypo yhe yvm yin yfi yde yap yas yto yan yco yti yna yac yen yic n) x5 a b x10 r yma ypo yhe yvm yin yfi yde yap yas yto yan yco yti yna yac yen yic o l kS d pl ys yk yn yp yf yo yi yw ya y1 y2 yK yW yL yq nm nv no yA lf rt iK iN := by
  unfold wY_compare_129
  exact br_f hr hp
theorem yc_head {yma ypo yhe yvm : Int32} {yin : Int64} {yfi yde yap yas yto : Int32} {yan : Int64} {yco yti yna yac yen yic : Int32} {o l kS d : Nat → Int32} {pl ys : Nat → Int64} {yk yn yp yf yo : Nat → Int32} {yi : Nat → Int64} {yw ya y1 y2 : Nat → Int32} {yK : Nat → Int64} {yW : Nat → Int32} {yL : Nat → Int64} {yq nm : Nat → Int32} {nv : Nat → Int64} {no : Nat → Int32} {yA lf rt : Nat → Int64} {iK iN : Nat → Int32} {V : Nat → Prop} {K N Z D Im W P : Nat → Int32} {mk pd n M s t : Nat} {post : Int32 → SY → Prop} {a b : Int64} (hx : vv_ox V K N Z D Im W P) (hy : vv_cy mk pd o l pl) (hs : s < 653) (ht : t < 653) (Rs : vv_R V K N Z D P mk o l kS d pl (nI s) a) (Rt : vv_R V K N Z D P mk o l kS d pl (nI t) b)
    (hM : M < 300) (el : lf M = a) (er : rt M = b)
    (h : wY_compare_129 post (wY_compare_17 post yma ypo yhe yvm yin yfi yde yap yas yto yan yco yti yna yac yen yic n) (nI M) a b (K s) (oo_h K N s t) yma ypo yhe yvm yin yfi yde yap yas yto yan yco yti yna yac yen yic o l kS d pl ys yk yn yp yf yo yi yw ya y1 y2 yK yW yL yq nm nv no yA lf rt iK iN) : wY_compare_17 post yma ypo yhe yvm yin yfi yde yap yas yto yan yco yti yna yac yen yic (n + 1) (nI (M + 1)) o l kS d pl ys yk yn yp yf yo yi yw ya y1 y2 yK yW yL yq nm nv no yA lf rt iK iN := by
  obtain ⟨s1, κ, x, c1, c2, c3, c4, c5, c6, c7⟩ := vv_R_is hx hy Rs
  obtain ⟨t1, κ', x', d1, d2, d3, d4, d5, d6, d7⟩ := vv_R_is hx hy Rt
  have es : s1 = s := (nI_eq (by omega) (by omega)).mp c1.symm
  have et : t1 = t := (nI_eq (by omega) (by omega)).mp d1.symm
  subst es et
  have iM : vp_in (nI M) 300 := vp_in_nI hM (by omega)
  unfold wY_compare_17
  refine br_f (nI_nle (by omega) (by omega)) (nm_r (pk_m1 M) ?_)
  rw [nI_clamp (show M < 2 ^ 31 by omega), el, er]
  refine ⟨iM, nm_e ⟨iM, nm_e ?_⟩⟩
  rw [c5, d5] at h ⊢
  refine ym_sort (by omega) (ym_sort (by omega) (ym_sign ?_))
  unfold oo_h at h
  rw [c6, d6] at h
  by_cases e : κ = κ'
  · subst e
    rw [if_pos (Int32.le_refl _), if_pos (Int32.le_refl _)]
    rw [if_pos rfl] at h
    refine br_t rfl (pk_eq κ 3 (fun k3 => ?_) (fun k3 => ?_))
    · subst k3
      have n1 : N s1 = x := by rcases c7 with ⟨_, w, _⟩ | ⟨w, -⟩; exact w; omega
      have n2 : N t1 = x' := by rcases d7 with ⟨_, w, _⟩ | ⟨w, -⟩; exact w; omega
      rw [if_pos (show nI 3 = 3 from rfl), n1, n2] at h
      rw [yy_xt, yy_xt]
      refine ym_sign ?_
      generalize (if x' ≤ x then (if x ≤ x' then (0 : Int32) else 1) else -1) = r at *
      unfold wY_compare_91
      refine br_c (fun z => br_f (by decide) ?_) (fun z => ?_)
      · unfold wY_compare_127
        exact h
      · unfold wY_compare_127
        exact h
    · have n3 : ¬ nI κ = (3 : Int32) := fun w => k3 ((nI_eq (b := 3) (by omega) (by omega)).mp w)
      rw [if_neg n3] at h
      unfold wY_compare_89 wY_compare_91
      refine br_t rfl (pk_eq κ 5 (fun k5 => ?_) (fun k5 => ?_))
      · subst k5
        rw [if_pos (show nI 5 = 5 from rfl)] at h
        rcases c7 with ⟨w, -⟩ | ⟨_, j, aa, bb, j1, j2, j3, j4, j5, j6, j7, -⟩
        · omega
        rcases d7 with ⟨w, -⟩ | ⟨_, j', aa', bb', j1', j2', j3', j4', j5', j6', j7', -⟩
        · omega
        obtain ⟨κ1, _, q2, _, q4⟩ := oo_kind hx c3
        obtain ⟨κ2, _, q2', _, q4'⟩ := oo_kind hx d3
        obtain ⟨m, m1, m2⟩ := q4 (rl_not45 q2 c6 (by omega) (by omega))
        obtain ⟨m', m1', m2'⟩ := q4' (rl_not45 q2' d6 (by omega) (by omega))
        rw [m2, m2', nI_clamp (by omega), nI_clamp (by omega)] at h
        have h7 := hy.1
        rw [yy_xt, yy_xt, j2, j2', nI_clamp (show j < 2 ^ 31 by omega), nI_clamp (show j' < 2 ^ 31 by omega), ← j7, ← j7', m2, m2']
        rw [j2, j2'] at h
        exact ⟨vp_in_nI (by omega) (by omega), vp_in_nI (by omega) (by omega), ym_compareKeys m1 m1' h⟩
      · have n5 : ¬ nI κ = (5 : Int32) := fun w => k5 ((nI_eq (b := 5) (by omega) (by omega)).mp w)
        rw [if_neg n5] at h
        unfold wY_compare_127
        exact h
  · rw [if_neg (fun w => e ((nI_eq (by omega) (by omega)).mp w))] at h
    have fin : ∀ r : Int32, ¬ r = 0 → wY_compare_129 post (wY_compare_17 post yma ypo yhe yvm yin yfi yde yap yas yto yan yco yti yna yac yen yic n) (nI M) (yy_t κ x) (yy_t κ' x') (nI κ) r yma ypo yhe yvm yin yfi yde yap yas yto yan yco yti yna yac yen yic o l kS d pl ys yk yn yp yf yo yi yw ya y1 y2 yK yW yL yq nm nv no yA lf rt iK iN → wY_compare_89 post (wY_compare_17 post yma ypo yhe yvm yin yfi yde yap yas yto yan yco yti yna yac yen yic n) (nI M) (yy_t κ x) (yy_t κ' x') (nI κ) r yma ypo yhe yvm yin yfi yde yap yas yto yan yco yti yna yac yen yic o l kS d pl ys yk yn yp yf yo yi yw ya y1 y2 yK yW yL yq nm nv no yA lf rt iK iN := by
      intro r hr h
      unfold wY_compare_89 wY_compare_91
      refine br_f hr ?_
      unfold wY_compare_127
      exact h
    by_cases le : κ' ≤ κ
    · rw [if_pos (nI_le le (by omega))] at h ⊢
      rw [if_neg (nI_ge (by omega) (by omega))]
      exact br_f (by decide) (fin 1 (by decide) h)
    · rw [if_neg (nI_ge (by omega) (by omega))] at h ⊢
      exact br_f (by decide) (fin (-1) (by decide) h)
