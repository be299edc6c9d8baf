/-! ===== Y: leaves ===== -/
theorem yl_m : ∀ x, x < 8 → (nI (2 ^ x) - 1).toBitVec.toNat = 2 ^ x - 1 := by decide +kernel
theorem yl_pc : ∀ m, m < 256 → ∀ x, x < 8 → vv_pc (m % 2 ^ x) 10 = vv_pc m x := by decide +kernel
theorem yl_fieldOf {yma ypo yhe yvm : Int32} {yin : Int64} {yfi yde yap yas yto : Int32} {yan : Int64} {yco yti yna yac yen yic : Int32} {o l kS d : Nat → Int32} {pl ys : Nat → Int64} {yk yn yp yf yo : Nat → Int32} {yi : Nat → Int64} {yw ya y1 y2 : Nat → Int32} {yK : Nat → Int64} {yW : Nat → Int32} {yL : Nat → Int64} {yq nm : Nat → Int32} {nv : Nat → Int64} {no : Nat → Int32} {yA lf rt : Nat → Int64} {iK iN : Nat → Int32} {post : Int64 → Prop} {κ j m x oa : Nat} (hj : j < 760) (ek : kS j = nI m) (hm : m < 256) (hx : x < 8) (eo : o j = nI oa) (ho : oa + 10 ≤ 8210) (h1 : m / 2 ^ x % 2 = 1 → oa + vv_pc m x < 8200 ∧ post (pl (oa + vv_pc m x))) (h0 : m / 2 ^ x % 2 = 0 → post 0) : wpY_fieldOf post (yma, ypo, yhe, yvm, yin, yfi, yde, yap, yas, yto, yan, yco, yti, yna, yac, yen, yic, o, l, kS, d, pl, ys, yk, yn, yp, yf, yo, yi, yw, ya, y1, y2, yK, yW, yL, yq, nm, nv, no, yA, lf, rt, iK, iN) (yy_t κ (nI j)) (nI x) := by
  unfold wpY_fieldOf
  dsimp only
  rw [yy_xt, nI_clamp (show j < 2 ^ 31 by omega), ek]
  refine ⟨vp_in_nI hj (by omega), nm_e ?_⟩
  rw [kb_bit (by omega) (by omega), xk_1shl hx]
  refine pk_eq (m / 2 ^ x % 2) 1 (fun z => ?_) (fun z => h0 (by omega))
  obtain ⟨b1, b2⟩ := h1 z
  rw [pk_andN (m := nI (2 ^ x) - 1) (by omega) x (yl_m x hx)]
  refine ym_bits (Nat.lt_of_le_of_lt (Nat.mod_le _ _) (by omega)) ?_
  rw [yl_pc m hm x hx]
  exact ym_place hj eo b1 b2
theorem yl_0 {yma ypo yhe yvm : Int32} {yin : Int64} {yfi yde yap yas yto : Int32} {yan : Int64} {yco yti yna yac yen yic : Int32} {o l kS d : Nat → Int32} {pl ys : Nat → Int64} {yk yn yp yf yo : Nat → Int32} {yi : Nat → Int64} {yw ya y1 y2 : Nat → Int32} {yK : Nat → Int64} {yW : Nat → Int32} {yL : Nat → Int64} {yq nm : Nat → Int32} {nv : Nat → Int64} {no : Nat → Int32} {yA lf rt : Nat → Int64} {iK iN : Nat → Int32} {post : SY → Prop} {g a κ : Nat} {x px : Int32} (hg : g < 600) (ew : yi g = yy_t κ x) (hκ : κ ≤ 5) (ea : yas = nI (a + 1)) (hp : post (yma, ypo, yhe, yvm, yin, yfi, yde, yap, (nI a), 0, (yy_t κ x), yco, yti, yna, yac, yen, yic, o, l, kS, d, pl, ys, yk, yn, yp, yf, yo, yi, yw, ya, y1, y2, yK, yW, yL, yq, nm, nv, no, yA, lf, rt, iK, iN)) : wpY_tellLeaf post (yma, ypo, yhe, yvm, yin, yfi, yde, yap, yas, yto, yan, yco, yti, yna, yac, yen, yic, o, l, kS, d, pl, ys, yk, yn, yp, yf, yo, yi, yw, ya, y1, y2, yK, yW, yL, yq, nm, nv, no, yA, lf, rt, iK, iN) (nI g) (nI 0) px := by
  have eg' : (nI g).toNatClampNeg = g := nI_clamp (by omega)
  have hin : vp_in (nI g) 601 := vp_in_nI (by omega) (by omega)
  unfold wpY_tellLeaf
  dsimp only
  rw [eg', ew]
  refine ⟨hin, nm_e (ym_sort (by omega) ?_)⟩
  refine br_f (by decide) (br_t rfl ?_)
  unfold wY_tellLeaf_54
  exact yr_tell ea hp
theorem yl_1 {yma ypo yhe yvm : Int32} {yin : Int64} {yfi yde yap yas yto : Int32} {yan : Int64} {yco yti yna yac yen yic : Int32} {o l kS d : Nat → Int32} {pl ys : Nat → Int64} {yk yn yp yf yo : Nat → Int32} {yi : Nat → Int64} {yw ya y1 y2 : Nat → Int32} {yK : Nat → Int64} {yW : Nat → Int32} {yL : Nat → Int64} {yq nm : Nat → Int32} {nv : Nat → Int64} {no : Nat → Int32} {yA lf rt : Nat → Int64} {iK iN : Nat → Int32} {post : SY → Prop} {g a κ : Nat} {x px : Int32} (hg : g < 600) (ew : yi g = yy_t κ x) (hκ : κ ≤ 5) (ea : yas = nI (a + 1)) (hp : post (yma, ypo, yhe, yvm, yin, yfi, yde, yap, (nI a), 0, (yy_t 0 0), yco, yti, yna, yac, yen, yic, o, l, kS, d, pl, ys, yk, yn, yp, yf, yo, yi, yw, ya, y1, y2, yK, yW, yL, yq, nm, nv, no, yA, lf, rt, iK, iN)) : wpY_tellLeaf post (yma, ypo, yhe, yvm, yin, yfi, yde, yap, yas, yto, yan, yco, yti, yna, yac, yen, yic, o, l, kS, d, pl, ys, yk, yn, yp, yf, yo, yi, yw, ya, y1, y2, yK, yW, yL, yq, nm, nv, no, yA, lf, rt, iK, iN) (nI g) (nI 1) px := by
  have eg' : (nI g).toNatClampNeg = g := nI_clamp (by omega)
  have hin : vp_in (nI g) 601 := vp_in_nI (by omega) (by omega)
  unfold wpY_tellLeaf
  dsimp only
  rw [eg', ew]
  refine ⟨hin, nm_e (ym_sort (by omega) ?_)⟩
  refine br_f (by decide) (br_f (by decide) (br_f (by decide) ?_))
  rw [nI_pred]
  refine ym_thing (κ := 0) (by omega) ?_
  unfold wY_tellLeaf_54
  exact yr_tell ea hp
theorem yl_2 {yma ypo yhe yvm : Int32} {yin : Int64} {yfi yde yap yas yto : Int32} {yan : Int64} {yco yti yna yac yen yic : Int32} {o l kS d : Nat → Int32} {pl ys : Nat → Int64} {yk yn yp yf yo : Nat → Int32} {yi : Nat → Int64} {yw ya y1 y2 : Nat → Int32} {yK : Nat → Int64} {yW : Nat → Int32} {yL : Nat → Int64} {yq nm : Nat → Int32} {nv : Nat → Int64} {no : Nat → Int32} {yA lf rt : Nat → Int64} {iK iN : Nat → Int32} {post : SY → Prop} {g a κ : Nat} {x px : Int32} (hg : g < 600) (ew : yi g = yy_t κ x) (hκ : κ ≤ 5) (ea : yas = nI (a + 1)) (hp : post (yma, ypo, yhe, yvm, yin, yfi, yde, yap, (nI a), 0, (yy_t 1 0), yco, yti, yna, yac, yen, yic, o, l, kS, d, pl, ys, yk, yn, yp, yf, yo, yi, yw, ya, y1, y2, yK, yW, yL, yq, nm, nv, no, yA, lf, rt, iK, iN)) : wpY_tellLeaf post (yma, ypo, yhe, yvm, yin, yfi, yde, yap, yas, yto, yan, yco, yti, yna, yac, yen, yic, o, l, kS, d, pl, ys, yk, yn, yp, yf, yo, yi, yw, ya, y1, y2, yK, yW, yL, yq, nm, nv, no, yA, lf, rt, iK, iN) (nI g) (nI 2) px := by
  have eg' : (nI g).toNatClampNeg = g := nI_clamp (by omega)
  have hin : vp_in (nI g) 601 := vp_in_nI (by omega) (by omega)
  unfold wpY_tellLeaf
  dsimp only
  rw [eg', ew]
  refine ⟨hin, nm_e (ym_sort (by omega) ?_)⟩
  refine br_f (by decide) (br_f (by decide) (br_f (by decide) ?_))
  rw [nI_pred]
  refine ym_thing (κ := 1) (by omega) ?_
  unfold wY_tellLeaf_54
  exact yr_tell ea hp
theorem yl_3 {yma ypo yhe yvm : Int32} {yin : Int64} {yfi yde yap yas yto : Int32} {yan : Int64} {yco yti yna yac yen yic : Int32} {o l kS d : Nat → Int32} {pl ys : Nat → Int64} {yk yn yp yf yo : Nat → Int32} {yi : Nat → Int64} {yw ya y1 y2 : Nat → Int32} {yK : Nat → Int64} {yW : Nat → Int32} {yL : Nat → Int64} {yq nm : Nat → Int32} {nv : Nat → Int64} {no : Nat → Int32} {yA lf rt : Nat → Int64} {iK iN : Nat → Int32} {post : SY → Prop} {g a κ : Nat} {x px : Int32} (hg : g < 600) (ew : yi g = yy_t κ x) (hκ : κ ≤ 5) (ea : yas = nI (a + 1)) (hp : post (yma, ypo, yhe, yvm, yin, yfi, yde, yap, (nI a), 0, (yy_t 2 0), yco, yti, yna, yac, yen, yic, o, l, kS, d, pl, ys, yk, yn, yp, yf, yo, yi, yw, ya, y1, y2, yK, yW, yL, yq, nm, nv, no, yA, lf, rt, iK, iN)) : wpY_tellLeaf post (yma, ypo, yhe, yvm, yin, yfi, yde, yap, yas, yto, yan, yco, yti, yna, yac, yen, yic, o, l, kS, d, pl, ys, yk, yn, yp, yf, yo, yi, yw, ya, y1, y2, yK, yW, yL, yq, nm, nv, no, yA, lf, rt, iK, iN) (nI g) (nI 3) px := by
  have eg' : (nI g).toNatClampNeg = g := nI_clamp (by omega)
  have hin : vp_in (nI g) 601 := vp_in_nI (by omega) (by omega)
  unfold wpY_tellLeaf
  dsimp only
  rw [eg', ew]
  refine ⟨hin, nm_e (ym_sort (by omega) ?_)⟩
  refine br_f (by decide) (br_f (by decide) (br_f (by decide) ?_))
  rw [nI_pred]
  refine ym_thing (κ := 2) (by omega) ?_
  unfold wY_tellLeaf_54
  exact yr_tell ea hp
theorem yl_4 {yma ypo yhe yvm : Int32} {yin : Int64} {yfi yde yap yas yto : Int32} {yan : Int64} {yco yti yna yac yen yic : Int32} {o l kS d : Nat → Int32} {pl ys : Nat → Int64} {yk yn yp yf yo : Nat → Int32} {yi : Nat → Int64} {yw ya y1 y2 : Nat → Int32} {yK : Nat → Int64} {yW : Nat → Int32} {yL : Nat → Int64} {yq nm : Nat → Int32} {nv : Nat → Int64} {no : Nat → Int32} {yA lf rt : Nat → Int64} {iK iN : Nat → Int32} {post : SY → Prop} {g a κ : Nat} {x px : Int32} (hg : g < 600) (ew : yi g = yy_t κ x) (hκ : κ ≤ 5) (ea : yas = nI (a + 1)) (hp : post (yma, ypo, yhe, yvm, yin, yfi, yde, yap, (nI a), 0, (yy_t 3 px), yco, yti, yna, yac, yen, yic, o, l, kS, d, pl, ys, yk, yn, yp, yf, yo, yi, yw, ya, y1, y2, yK, yW, yL, yq, nm, nv, no, yA, lf, rt, iK, iN)) : wpY_tellLeaf post (yma, ypo, yhe, yvm, yin, yfi, yde, yap, yas, yto, yan, yco, yti, yna, yac, yen, yic, o, l, kS, d, pl, ys, yk, yn, yp, yf, yo, yi, yw, ya, y1, y2, yK, yW, yL, yq, nm, nv, no, yA, lf, rt, iK, iN) (nI g) (nI 4) px := by
  have eg' : (nI g).toNatClampNeg = g := nI_clamp (by omega)
  have hin : vp_in (nI g) 601 := vp_in_nI (by omega) (by omega)
  unfold wpY_tellLeaf
  dsimp only
  rw [eg', ew]
  refine ⟨hin, nm_e (ym_sort (by omega) ?_)⟩
  refine br_f (by decide) (br_f (by decide) (br_t rfl (ym_thing (κ := 3) (by omega) ?_)))
  unfold wY_tellLeaf_54
  exact yr_tell ea hp
theorem yl_5 {yma ypo yhe yvm : Int32} {yin : Int64} {yfi yde yap yas yto : Int32} {yan : Int64} {yco yti yna yac yen yic : Int32} {o l kS d : Nat → Int32} {pl ys : Nat → Int64} {yk yn yp yf yo : Nat → Int32} {yi : Nat → Int64} {yw ya y1 y2 : Nat → Int32} {yK : Nat → Int64} {yW : Nat → Int32} {yL : Nat → Int64} {yq nm : Nat → Int32} {nv : Nat → Int64} {no : Nat → Int32} {yA lf rt : Nat → Int64} {iK iN : Nat → Int32} {post : SY → Prop} {g a κ : Nat} {x px : Int32} (hg : g < 600) (ew : yi g = yy_t κ x) (hκ : κ ≤ 5) (ea : yas = nI (a + 1)) {m kx : Nat} (epx : px = nI kx) (hkx : kx < 8) (h5 : κ = 5 → ∃ j oa, x = nI j ∧ j < 760 ∧ kS j = nI m ∧ m < 256 ∧ o j = nI oa ∧ oa + vv_pc m 8 ≤ 8200 ∧ (m / 2 ^ kx % 2 = 1 → post (yma, ypo, yhe, yvm, yin, yfi, yde, yap, (nI a), 0, (pl (oa + vv_pc m kx)), yco, yti, yna, yac, yen, yic, o, l, kS, d, pl, ys, yk, yn, yp, yf, yo, yi, yw, ya, y1, y2, yK, yW, yL, yq, nm, nv, no, yA, lf, rt, iK, iN))) (h0 : κ = 0 ∨ (κ = 5 ∧ m / 2 ^ kx % 2 = 0) → post (yma, ypo, yhe, yvm, yin, yfi, yde, yap, (nI a), 0, 0, yco, yti, yna, yac, yen, yic, o, l, kS, d, pl, ys, yk, yn, yp, yf, yo, yi, yw, ya, y1, y2, yK, yW, yL, yq, nm, nv, no, yA, lf, rt, iK, iN)) (h2 : κ ≠ 0 → κ ≠ 5 → post (yma, ypo, yhe, yvm, yin, yfi, yde, yap, (nI a), 2, 0, yco, yti, yna, yac, yen, yic, o, l, kS, d, pl, ys, yk, yn, yp, yf, yo, yi, yw, ya, y1, y2, yK, yW, yL, yq, nm, nv, no, yA, lf, rt, iK, iN)) : wpY_tellLeaf post (yma, ypo, yhe, yvm, yin, yfi, yde, yap, yas, yto, yan, yco, yti, yna, yac, yen, yic, o, l, kS, d, pl, ys, yk, yn, yp, yf, yo, yi, yw, ya, y1, y2, yK, yW, yL, yq, nm, nv, no, yA, lf, rt, iK, iN) (nI g) (nI 5) px := by
  have eg' : (nI g).toNatClampNeg = g := nI_clamp (by omega)
  have hin : vp_in (nI g) 601 := vp_in_nI (by omega) (by omega)
  unfold wpY_tellLeaf
  dsimp only
  rw [eg', ew]
  refine ⟨hin, nm_e (ym_sort (by omega) ?_)⟩
  refine br_t (by decide) (br_t rfl ?_)
  subst epx
  refine pk_eq κ 5 (fun e5 => ?_) (fun n5 => pk_eq κ 0 (fun e0 => ?_) (fun n0 => ?_))
  · obtain ⟨j, oa, j1, j2, j3, j4, j5, j6, j7⟩ := h5 e5
    subst j1 e5
    unfold wY_tellLeaf_77 wY_tellLeaf_82
    refine br_t rfl (yl_fieldOf j2 j3 j4 hkx j5 (by omega) (fun z => ⟨?_, ?_⟩) (fun z => ?_))
    · have h1 := vv_pc_u (m := m) (a := kx + 1) (b := 8) (by omega)
      have h2 := vv_pc_s m kx
      omega
    · unfold wY_tellLeaf_99
      exact yr_tell ea (j7 z)
    · unfold wY_tellLeaf_99
      exact yr_tell ea (h0 (Or.inr ⟨rfl, z⟩))
  · subst e0
    unfold wY_tellLeaf_77 wY_tellLeaf_82
    refine br_f (by decide) ?_
    unfold wY_tellLeaf_99
    exact yr_tell ea (h0 (Or.inl rfl))
  · unfold wY_tellLeaf_82
    refine br_f (fun z => n5 ((nI_eq (b := 5) (by omega) (by omega)).mp z)) ?_
    unfold wY_tellLeaf_99
    exact yr_tell ea (h2 n0 n5)
theorem yl_6 {yma ypo yhe yvm : Int32} {yin : Int64} {yfi yde yap yas yto : Int32} {yan : Int64} {yco yti yna yac yen yic : Int32} {o l kS d : Nat → Int32} {pl ys : Nat → Int64} {yk yn yp yf yo : Nat → Int32} {yi : Nat → Int64} {yw ya y1 y2 : Nat → Int32} {yK : Nat → Int64} {yW : Nat → Int32} {yL : Nat → Int64} {yq nm : Nat → Int32} {nv : Nat → Int64} {no : Nat → Int32} {yA lf rt : Nat → Int64} {iK iN : Nat → Int32} {post : SY → Prop} {g a κ : Nat} {x px : Int32} (hg : g < 600) (ew : yi g = yy_t κ x) (hκ : κ ≤ 5) (ea : yas = nI (a + 1)) {z : Nat} {y : Int32} (h4 : κ = 4 → ∃ j oa, x = nI j ∧ j < 760 ∧ o j = nI oa ∧ l j = nI z ∧ z ≤ 10 ∧ oa + z ≤ 8200 ∧ (0 ≤ px → y = px) ∧ (¬ 0 ≤ px → y = nI z + px) ∧ ∀ i, i < z → y = nI i → post (yma, ypo, yhe, yvm, yin, yfi, yde, yap, (nI a), 0, (pl (oa + i)), yco, yti, yna, yac, yen, yic, o, l, kS, d, pl, ys, yk, yn, yp, yf, yo, yi, yw, ya, y1, y2, yK, yW, yL, yq, nm, nv, no, yA, lf, rt, iK, iN)) (h0 : κ = 0 ∨ (κ = 4 ∧ (y < 0 ∨ nI z ≤ y)) → post (yma, ypo, yhe, yvm, yin, yfi, yde, yap, (nI a), 0, 0, yco, yti, yna, yac, yen, yic, o, l, kS, d, pl, ys, yk, yn, yp, yf, yo, yi, yw, ya, y1, y2, yK, yW, yL, yq, nm, nv, no, yA, lf, rt, iK, iN)) (h2 : κ ≠ 0 → κ ≠ 4 → post (yma, ypo, yhe, yvm, yin, yfi, yde, yap, (nI a), 2, 0, yco, yti, yna, yac, yen, yic, o, l, kS, d, pl, ys, yk, yn, yp, yf, yo, yi, yw, ya, y1, y2, yK, yW, yL, yq, nm, nv, no, yA, lf, rt, iK, iN)) : wpY_tellLeaf post (yma, ypo, yhe, yvm, yin, yfi, yde, yap, yas, yto, yan, yco, yti, yna, yac, yen, yic, o, l, kS, d, pl, ys, yk, yn, yp, yf, yo, yi, yw, ya, y1, y2, yK, yW, yL, yq, nm, nv, no, yA, lf, rt, iK, iN) (nI g) (nI 6) px := by
  have eg' : (nI g).toNatClampNeg = g := nI_clamp (by omega)
  have hin : vp_in (nI g) 601 := vp_in_nI (by omega) (by omega)
  unfold wpY_tellLeaf
  dsimp only
  rw [eg', ew]
  refine ⟨hin, nm_e (ym_sort (by omega) ?_)⟩
  refine br_t (by decide) (br_f (by decide) (br_t rfl ?_))
  refine pk_eq κ 4 (fun e4 => ?_) (fun n4 => ?_)
  · obtain ⟨j, oa, j1, j2, j3, j4, j5, j6, j7, j8, j9⟩ := h4 e4
    subst j1 e4
    have fin : wY_tellLeaf_133 post (yy_t 4 (nI j)) (nI 4) y yma ypo yhe yvm yin yfi yde yap yas yto yan yco yti yna yac yen yic o l kS d pl ys yk yn yp yf yo yi yw ya y1 y2 yK yW yL yq nm nv no yA lf rt iK iN := by
      unfold wY_tellLeaf_133
      refine br_t rfl ?_
      unfold wY_tellLeaf_147 wY_tellLeaf_152
      have k185 : (y < 0 ∨ nI z ≤ y) → wY_tellLeaf_185 post 0 yma ypo yhe yvm yin yfi yde yap yas yto yan yco yti yna yac yen yic o l kS d pl ys yk yn yp yf yo yi yw ya y1 y2 yK yW yL yq nm nv no yA lf rt iK iN := by
        intro w
        unfold wY_tellLeaf_185 wY_tellLeaf_186
        exact yr_tell ea (h0 (Or.inr ⟨rfl, w⟩))
      refine br_t rfl (br_c (fun w => k185 (Or.inl w)) (fun n0 => ym_lengthOf j2 ?_))
      rw [j4]
      refine br_c (fun w => k185 (Or.inr w)) (fun nz => ?_)
      rcases pk_ix y (n := z) (by omega) with w | w | ⟨i, i1, i2⟩
      · exact absurd w n0
      · exact absurd w nz
      · have hh := j9 i i1 i2
        rw [i2]
        refine ym_place j2 j3 (by omega) ?_
        unfold wY_tellLeaf_186
        exact yr_tell ea hh
    refine br_c (fun w => ?_) (fun w => ym_lengthOf j2 ?_)
    · unfold wY_tellLeaf_132
      rw [j7 w] at fin
      exact fin
    · rw [j4]
      rw [j8 w] at fin
      exact fin
  · unfold wY_tellLeaf_132 wY_tellLeaf_133
    have n4' : ¬ nI κ = (4 : Int32) := fun z => n4 ((nI_eq (b := 4) (by omega) (by omega)).mp z)
    refine br_f n4' (pk_eq κ 0 (fun e0 => ?_) (fun n0 => ?_))
    · unfold wY_tellLeaf_147 wY_tellLeaf_152
      refine br_f n4' ?_
      unfold wY_tellLeaf_185 wY_tellLeaf_186
      exact yr_tell ea (h0 (Or.inl e0))
    · unfold wY_tellLeaf_152
      refine br_f n4' ?_
      unfold wY_tellLeaf_185 wY_tellLeaf_186
      exact yr_tell ea (h2 n0 n4)
theorem yl_10 {yma ypo yhe yvm : Int32} {yin : Int64} {yfi yde yap yas yto : Int32} {yan : Int64} {yco yti yna yac yen yic : Int32} {o l kS d : Nat → Int32} {pl ys : Nat → Int64} {yk yn yp yf yo : Nat → Int32} {yi : Nat → Int64} {yw ya y1 y2 : Nat → Int32} {yK : Nat → Int64} {yW : Nat → Int32} {yL : Nat → Int64} {yq nm : Nat → Int32} {nv : Nat → Int64} {no : Nat → Int32} {yA lf rt : Nat → Int64} {iK iN : Nat → Int32} {post : SY → Prop} {g a κ : Nat} {x px : Int32} (hg : g < 600) (ew : yi g = yy_t κ x) (hκ : κ ≤ 5) (ea : yas = nI (a + 1)) {y : Int32} (hy : (κ = 3 → (0 ≤ x → y = x) ∧ (¬ 0 ≤ x → y = -x)) ∧ (κ < 3 → y = 0) ∧ (3 < κ → ∃ j, x = nI j ∧ j < 760 ∧ y = l j)) (h0 : κ ≠ 1 → κ ≠ 2 → post (yma, ypo, yhe, yvm, yin, yfi, yde, yap, (nI a), 0, (yy_t 3 y), yco, yti, yna, yac, yen, yic, o, l, kS, d, pl, ys, yk, yn, yp, yf, yo, yi, yw, ya, y1, y2, yK, yW, yL, yq, nm, nv, no, yA, lf, rt, iK, iN)) (h2 : κ = 1 ∨ κ = 2 → ∀ w : Int64, post (yma, ypo, yhe, yvm, yin, yfi, yde, yap, (nI a), 2, w, yco, yti, yna, yac, yen, yic, o, l, kS, d, pl, ys, yk, yn, yp, yf, yo, yi, yw, ya, y1, y2, yK, yW, yL, yq, nm, nv, no, yA, lf, rt, iK, iN)) : wpY_tellLeaf post (yma, ypo, yhe, yvm, yin, yfi, yde, yap, yas, yto, yan, yco, yti, yna, yac, yen, yic, o, l, kS, d, pl, ys, yk, yn, yp, yf, yo, yi, yw, ya, y1, y2, yK, yW, yL, yq, nm, nv, no, yA, lf, rt, iK, iN) (nI g) (nI 10) px := by
  have eg' : (nI g).toNatClampNeg = g := nI_clamp (by omega)
  have hin : vp_in (nI g) 601 := vp_in_nI (by omega) (by omega)
  unfold wpY_tellLeaf
  dsimp only
  rw [eg', ew]
  refine ⟨hin, nm_e (ym_sort (by omega) ?_)⟩
  have k221 : ∀ (t : Int32), (∀ w : Int64, w = yy_t 3 y → post (yma, ypo, yhe, yvm, yin, yfi, yde, yap, (nI a), t, w, yco, yti, yna, yac, yen, yic, o, l, kS, d, pl, ys, yk, yn, yp, yf, yo, yi, yw, ya, y1, y2, yK, yW, yL, yq, nm, nv, no, yA, lf, rt, iK, iN)) → wY_tellLeaf_221 post (yy_t κ x) (nI κ) (yy_t κ x).toInt32 t yma ypo yhe yvm yin yfi yde yap yas yto yan yco yti yna yac yen yic o l kS d pl ys yk yn yp yf yo yi yw ya y1 y2 yK yW yL yq nm nv no yA lf rt iK iN := by
    intro t ht
    obtain ⟨u1, u2, u3⟩ := hy
    have k270 : ∀ v : Int32, v = y → wY_tellLeaf_270 post v 3 t yma ypo yhe yvm yin yfi yde yap yas yto yan yco yti yna yac yen yic o l kS d pl ys yk yn yp yf yo yi yw ya y1 y2 yK yW yL yq nm nv no yA lf rt iK iN := by
      intro v hv
      subst hv
      unfold wY_tellLeaf_270
      exact ym_thing (κ := 3) (by omega) (yr_tell ea (ht _ rfl))
    unfold wY_tellLeaf_221
    rw [yy_xt]
    refine pk_eq κ 0 (fun e => k270 0 (u2 (by omega)).symm) (fun n0 => pk_eq κ 3 (fun e => br_c (fun w => k270 _ ((u1 e).1 w).symm) (fun w => k270 _ ((u1 e).2 w).symm)) (fun n3 => pk_le κ 3 (fun w => k270 0 (u2 (by omega)).symm) (fun w => ?_)))
    obtain ⟨j, j1, j2, j3⟩ := u3 w
    subst j1
    exact ym_lengthOf j2 (k270 _ j3.symm)
  refine br_t (by decide) (br_f (by decide) (br_f (by decide) (br_t rfl ?_)))
  refine pk_eq κ 1 (fun e => ?_) (fun n1 => pk_eq κ 2 (fun e => ?_) (fun n2 => ?_))
  · unfold wY_tellLeaf_216
    exact k221 2 (fun w _ => h2 (Or.inl e) w)
  · unfold wY_tellLeaf_216
    exact k221 2 (fun w _ => h2 (Or.inr e) w)
  · exact k221 0 (fun w hw => by rw [hw]; exact h0 n1 n2)
theorem yl_11 {yma ypo yhe yvm : Int32} {yin : Int64} {yfi yde yap yas yto : Int32} {yan : Int64} {yco yti yna yac yen yic : Int32} {o l kS d : Nat → Int32} {pl ys : Nat → Int64} {yk yn yp yf yo : Nat → Int32} {yi : Nat → Int64} {yw ya y1 y2 : Nat → Int32} {yK : Nat → Int64} {yW : Nat → Int32} {yL : Nat → Int64} {yq nm : Nat → Int32} {nv : Nat → Int64} {no : Nat → Int32} {yA lf rt : Nat → Int64} {iK iN : Nat → Int32} {yma' ypo' yhe' yvm' : Int32} {yin' : Int64} {yfi' yde' yap' yas' yto' : Int32} {yan' : Int64} {yco' yti' yna' yac' yen' yic' : Int32} {o' l' kS' d' : Nat → Int32} {pl' ys' : Nat → Int64} {yk' yn' yp' yf' yo' : Nat → Int32} {yi' : Nat → Int64} {yw' ya' y1' y2' : Nat → Int32} {yK' : Nat → Int64} {yW' : Nat → Int32} {yL' : Nat → Int64} {yq' nm' : Nat → Int32} {nv' : Nat → Int64} {no' : Nat → Int32} {yA' lf' rt' : Nat → Int64} {iK' iN' : Nat → Int32} {post : SY → Prop} {g a κ : Nat} {x px : Int32} (hg : g < 600) (ew : yi g = yy_t κ x) (hκ : κ ≤ 5) (ea : yas = nI (a + 1)) (hA : ∀ Q : SY → Prop, Q (yma', ypo', yhe', yvm', yin', yfi', yde', yap', yas', yto', yan', yco', yti', yna', yac', yen', yic', o', l', kS', d', pl', ys', yk', yn', yp', yf', yo', yi', yw', ya', y1', y2', yK', yW', yL', yq', nm', nv', no', yA', lf', rt', iK', iN') → wpY_tellKeys Q (yma, ypo, yhe, yvm, yin, yfi, yde, yap, yas, yto, yan, yco, yti, yna, yac, yen, yic, o, l, kS, d, pl, ys, yk, yn, yp, yf, yo, yi, yw, ya, y1, y2, yK, yW, yL, yq, nm, nv, no, yA, lf, rt, iK, iN) (yy_t κ x) (nI κ)) (hp : post (yma', ypo', yhe', yvm', yin', yfi', yde', yap', yas', yto', yan', yco', yti', yna', yac', yen', yic', o', l', kS', d', pl', ys', yk', yn', yp', yf', yo', yi', yw', ya', y1', y2', yK', yW', yL', yq', nm', nv', no', yA', lf', rt', iK', iN')) : wpY_tellLeaf post (yma, ypo, yhe, yvm, yin, yfi, yde, yap, yas, yto, yan, yco, yti, yna, yac, yen, yic, o, l, kS, d, pl, ys, yk, yn, yp, yf, yo, yi, yw, ya, y1, y2, yK, yW, yL, yq, nm, nv, no, yA, lf, rt, iK, iN) (nI g) (nI 11) px := by
  have eg' : (nI g).toNatClampNeg = g := nI_clamp (by omega)
  have hin : vp_in (nI g) 601 := vp_in_nI (by omega) (by omega)
  unfold wpY_tellLeaf
  dsimp only
  rw [eg', ew]
  refine ⟨hin, nm_e (ym_sort (by omega) ?_)⟩
  exact br_t (by decide) (br_f (by decide) (br_f (by decide) (br_f (by decide) (br_t rfl (hA _ hp)))))
theorem yl_12 {yma ypo yhe yvm : Int32} {yin : Int64} {yfi yde yap yas yto : Int32} {yan : Int64} {yco yti yna yac yen yic : Int32} {o l kS d : Nat → Int32} {pl ys : Nat → Int64} {yk yn yp yf yo : Nat → Int32} {yi : Nat → Int64} {yw ya y1 y2 : Nat → Int32} {yK : Nat → Int64} {yW : Nat → Int32} {yL : Nat → Int64} {yq nm : Nat → Int32} {nv : Nat → Int64} {no : Nat → Int32} {yA lf rt : Nat → Int64} {iK iN : Nat → Int32} {post : SY → Prop} {g a κ : Nat} {x px : Int32} (hg : g < 600) (ew : yi g = yy_t κ x) (hκ : κ ≤ 5) (ea : yas = nI (a + 1)) (hp : post (yma, ypo, yhe, yvm, yin, yfi, yde, yap, (nI a), 0, (yy_t 3 (nI κ)), yco, yti, yna, yac, yen, yic, o, l, kS, d, pl, ys, yk, yn, yp, yf, yo, yi, yw, ya, y1, y2, yK, yW, yL, yq, nm, nv, no, yA, lf, rt, iK, iN)) : wpY_tellLeaf post (yma, ypo, yhe, yvm, yin, yfi, yde, yap, yas, yto, yan, yco, yti, yna, yac, yen, yic, o, l, kS, d, pl, ys, yk, yn, yp, yf, yo, yi, yw, ya, y1, y2, yK, yW, yL, yq, nm, nv, no, yA, lf, rt, iK, iN) (nI g) (nI 12) px := by
  have eg' : (nI g).toNatClampNeg = g := nI_clamp (by omega)
  have hin : vp_in (nI g) 601 := vp_in_nI (by omega) (by omega)
  unfold wpY_tellLeaf
  dsimp only
  rw [eg', ew]
  refine ⟨hin, nm_e (ym_sort (by omega) ?_)⟩
  exact br_t (by decide) (br_f (by decide) (br_f (by decide) (br_f (by decide) (br_f (by decide) (br_t rfl (ym_thing (κ := 3) (by omega) (yr_tell ea hp)))))))
theorem yl_13 {yma ypo yhe yvm : Int32} {yin : Int64} {yfi yde yap yas yto : Int32} {yan : Int64} {yco yti yna yac yen yic : Int32} {o l kS d : Nat → Int32} {pl ys : Nat → Int64} {yk yn yp yf yo : Nat → Int32} {yi : Nat → Int64} {yw ya y1 y2 : Nat → Int32} {yK : Nat → Int64} {yW : Nat → Int32} {yL : Nat → Int64} {yq nm : Nat → Int32} {nv : Nat → Int64} {no : Nat → Int32} {yA lf rt : Nat → Int64} {iK iN : Nat → Int32} {post : SY → Prop} {g a κ : Nat} {x px : Int32} (hg : g < 600) (ew : yi g = yy_t κ x) (hκ : κ ≤ 5) (ea : yas = nI (a + 1)) {nd kx : Nat} (epx : px = nI kx) (hn : en_ok nd no) (hw : en_at nd (yw g)) (hp : post (yma, ypo, yhe, yvm, yin, yfi, yde, yap, (nI a), 0, (en_e nm no nv (yw g) kx), yco, yti, yna, yac, yen, yic, o, l, kS, d, pl, ys, yk, yn, yp, yf, yo, yi, yw, ya, y1, y2, yK, yW, yL, yq, nm, nv, no, yA, lf, rt, iK, iN)) : wpY_tellLeaf post (yma, ypo, yhe, yvm, yin, yfi, yde, yap, yas, yto, yan, yco, yti, yna, yac, yen, yic, o, l, kS, d, pl, ys, yk, yn, yp, yf, yo, yi, yw, ya, y1, y2, yK, yW, yL, yq, nm, nv, no, yA, lf, rt, iK, iN) (nI g) (nI 13) px := by
  have eg' : (nI g).toNatClampNeg = g := nI_clamp (by omega)
  have hin : vp_in (nI g) 601 := vp_in_nI (by omega) (by omega)
  unfold wpY_tellLeaf
  dsimp only
  rw [eg', ew]
  refine ⟨hin, nm_e (ym_sort (by omega) ?_)⟩
  subst epx
  exact br_t (by decide) (br_f (by decide) (br_f (by decide) (br_f (by decide) (br_f (by decide) (br_f (by decide) (br_t rfl (⟨hin, yr_meaning hn hw (yr_tell ea hp)⟩)))))))
theorem yl_14 {yma ypo yhe yvm : Int32} {yin : Int64} {yfi yde yap yas yto : Int32} {yan : Int64} {yco yti yna yac yen yic : Int32} {o l kS d : Nat → Int32} {pl ys : Nat → Int64} {yk yn yp yf yo : Nat → Int32} {yi : Nat → Int64} {yw ya y1 y2 : Nat → Int32} {yK : Nat → Int64} {yW : Nat → Int32} {yL : Nat → Int64} {yq nm : Nat → Int32} {nv : Nat → Int64} {no : Nat → Int32} {yA lf rt : Nat → Int64} {iK iN : Nat → Int32} {post : SY → Prop} {g a κ : Nat} {x px : Int32} (hg : g < 600) (ew : yi g = yy_t κ x) (hκ : κ ≤ 5) (ea : yas = nI (a + 1)) (h0 : 2 ≤ κ → post (yma, ypo, yhe, yvm, yin, yfi, yde, yap, (nI a), 0, (yy_t 1 0), yco, yti, yna, yac, yen, yic, o, l, kS, d, pl, ys, yk, yn, yp, yf, yo, yi, yw, ya, y1, y2, yK, yW, yL, yq, nm, nv, no, yA, lf, rt, iK, iN)) (h1 : κ < 2 → post (yma, ypo, yhe, yvm, yin, yfi, yde, yap, (nI a), 0, (yy_t 2 0), yco, yti, yna, yac, yen, yic, o, l, kS, d, pl, ys, yk, yn, yp, yf, yo, yi, yw, ya, y1, y2, yK, yW, yL, yq, nm, nv, no, yA, lf, rt, iK, iN)) : wpY_tellLeaf post (yma, ypo, yhe, yvm, yin, yfi, yde, yap, yas, yto, yan, yco, yti, yna, yac, yen, yic, o, l, kS, d, pl, ys, yk, yn, yp, yf, yo, yi, yw, ya, y1, y2, yK, yW, yL, yq, nm, nv, no, yA, lf, rt, iK, iN) (nI g) (nI 14) px := by
  have eg' : (nI g).toNatClampNeg = g := nI_clamp (by omega)
  have hin : vp_in (nI g) 601 := vp_in_nI (by omega) (by omega)
  unfold wpY_tellLeaf
  dsimp only
  rw [eg', ew]
  refine ⟨hin, nm_e (ym_sort (by omega) ?_)⟩
  have k354 : wY_tellLeaf_354 post (yy_t κ x) 0 yma ypo yhe yvm yin yfi yde yap yas yto yan yco yti yna yac yen yic o l kS d pl ys yk yn yp yf yo yi yw ya y1 y2 yK yW yL yq nm nv no yA lf rt iK iN := by
    unfold wY_tellLeaf_354
    refine ym_isEmpty (by omega) (fun w => ym_truth (fun _ => yr_tell ea (h0 w)) (fun z => absurd rfl z)) (fun w => ym_truth (fun z => absurd z (by decide)) (fun _ => yr_tell ea (h1 w)))
  exact br_t (by decide) (br_f (by decide) (br_f (by decide) (br_f (by decide) (br_f (by decide) (br_f (by decide) (br_f (by decide) (br_t rfl (k354))))))))
theorem yl_9 {yma ypo yhe yvm : Int32} {yin : Int64} {yfi yde yap yas yto : Int32} {yan : Int64} {yco yti yna yac yen yic : Int32} {o l kS d : Nat → Int32} {pl ys : Nat → Int64} {yk yn yp yf yo : Nat → Int32} {yi : Nat → Int64} {yw ya y1 y2 : Nat → Int32} {yK : Nat → Int64} {yW : Nat → Int32} {yL : Nat → Int64} {yq nm : Nat → Int32} {nv : Nat → Int64} {no : Nat → Int32} {yA lf rt : Nat → Int64} {iK iN : Nat → Int32} {post : SY → Prop} {g a κ : Nat} {x px : Int32} (hg : g < 600) (ew : yi g = yy_t κ x) (hκ : κ ≤ 5) (ea : yas = nI (a + 1)) (hp : ∀ w : Int64, post (yma, ypo, yhe, yvm, yin, yfi, yde, yap, (nI a), 2, w, yco, yti, yna, yac, yen, yic, o, l, kS, d, pl, ys, yk, yn, yp, yf, yo, yi, yw, ya, y1, y2, yK, yW, yL, yq, nm, nv, no, yA, lf, rt, iK, iN)) : wpY_tellLeaf post (yma, ypo, yhe, yvm, yin, yfi, yde, yap, yas, yto, yan, yco, yti, yna, yac, yen, yic, o, l, kS, d, pl, ys, yk, yn, yp, yf, yo, yi, yw, ya, y1, y2, yK, yW, yL, yq, nm, nv, no, yA, lf, rt, iK, iN) (nI g) (nI 9) px := by
  have eg' : (nI g).toNatClampNeg = g := nI_clamp (by omega)
  have hin : vp_in (nI g) 601 := vp_in_nI (by omega) (by omega)
  unfold wpY_tellLeaf
  dsimp only
  rw [eg', ew]
  refine ⟨hin, nm_e (ym_sort (by omega) ?_)⟩
  have k354 : wY_tellLeaf_354 post (yy_t κ x) 2 yma ypo yhe yvm yin yfi yde yap yas yto yan yco yti yna yac yen yic o l kS d pl ys yk yn yp yf yo yi yw ya y1 y2 yK yW yL yq nm nv no yA lf rt iK iN := by
    unfold wY_tellLeaf_354
    refine ym_isEmpty (by omega) (fun w => ym_truth (fun _ => yr_tell ea (hp _)) (fun z => absurd rfl z)) (fun w => ym_truth (fun z => absurd z (by decide)) (fun _ => yr_tell ea (hp _)))
  exact br_t (by decide) (br_f (by decide) (br_f (by decide) (br_f (by decide) (br_f (by decide) (br_f (by decide) (br_f (by decide) (br_f (by decide) (k354))))))))
