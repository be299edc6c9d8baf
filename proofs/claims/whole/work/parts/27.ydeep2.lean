theorem yd_loop {yma ypo yhe yvm : Int32} {yin : Int64} {yfi yde yap yas yto : Int32} {yan : Int64} {yco yti yna yac yen yic : Int32} {o l kS d : Nat → Int32} {pl ys : Nat → Int64} {yk yn yp yf yo : Nat → Int32} {yi : Nat → Int64} {yw ya y1 y2 : Nat → Int32} {yK : Nat → Int64} {yW : Nat → Int32} {yL : Nat → Int64} {yq nm : Nat → Int32} {nv : Nat → Int64} {no : Nat → Int32} {yA lf rt : Nat → Int64} {iK iN : Nat → Int32} {V : Nat → Prop} {K N Z D Im W P : Nat → Int32} {mk pd s0 g : Nat} {post : SY → Prop} {p : List Nat} (hx : vv_ox V K N Z D Im W P) (hy : vv_cy mk pd o l pl) (h0 : s0 < 653) (R0 : vv_R V K N Z D P mk o l kS d pl (nI s0) (yi g)) (hg : g < 600) (hok : dp_ok Z P p s0)
    (h1 : dp_ix W P p s0 + 1 = (W s0).toNatClampNeg → wY_tellDeep_94 post (nI g) 0 yma ypo yhe yvm yin yfi yde yap yas yto yan yco yti yna yac yen yic o l kS d pl ys yk yn yp yf yo yi yw ya y1 y2 yK yW yL yq nm nv no yA lf rt iK iN)
    (h2 : ∀ p2, dp_ok Z P p2 s0 → p2.length ≤ 4 → dp_ix W P p2 s0 = dp_ix W P p s0 + 1 → wY_tellDeep_94 post (nI g) (nI (dp_wy p2)) yma ypo yhe yvm yin yfi yde yap yas yto yan yco yti yna yac yen yic o l kS d pl ys yk yn yp yf yo yi yw ya y1 y2 yK yW yL yq nm nv no yA lf rt iK iN) :
    ∃ n, wY_tellDeep_52 post (nI g) yma ypo yhe yvm yin yfi yde yap yas yto yan yco yti yna yac yen yic o l kS d pl ys yk yn yp yf yo yi yw ya y1 y2 yK yW yL yq nm nv no yA lf rt iK iN n (nI (dp_wy p) * 16) := by
  have V0 : V s0 := by
    obtain ⟨n, e1, e2, e3, _⟩ := R0
    have : n = s0 := (nI_eq (by omega) (by omega)).mp e1.symm
    subst this
    exact e3
  obtain ⟨ds, d4, de⟩ := vv_D hx V0
  have hin : vp_in (nI g) 601 := vp_in_nI (by omega) (by omega)
  have eg : (nI g).toNatClampNeg = g := nI_clamp (by omega)
  have hsz : ∀ r, dp_ok Z P r s0 → (Z (dp_at P r s0)).toNatClampNeg ≤ 10 := by
    intro r hr
    obtain ⟨z, hz, ez, _⟩ := vv_ox_z hx (dp_V hx r s0 V0 hr)
    rw [ez, nI_clamp (by omega)]
    exact hz
  have hdg : ∀ r k, dp_ok Z P r s0 → k ≤ 10 → (∀ j, j ∈ r ++ [k] → j < 16) ∧ (r ++ [k]).length ≤ 5 := by
    intro r k hr hk
    obtain ⟨l1, l2⟩ := dp_len hx r s0 ds V0 de d4 hr
    refine ⟨fun j hj => ?_, by rw [List.length_append, List.length_singleton]; omega⟩
    rcases List.mem_append.mp hj with z | z
    · have := l2 j z; omega
    · have : j = k := by simpa using z
      omega
  have key : ∀ c r k, r.length = c → dp_ok Z P r s0 → k ≤ (Z (dp_at P r s0)).toNatClampNeg → dp_ix W P r s0 + 1 + vv_sm (dp_w W P (dp_at P r s0)) k = dp_ix W P p s0 + 1 → wY_tellDeep_52 post (nI g) yma ypo yhe yvm yin yfi yde yap yas yto yan yco yti yna yac yen yic o l kS d pl ys yk yn yp yf yo yi yw ya y1 y2 yK yW yL yq nm nv no yA lf rt iK iN (c + 2) (nI (dp_wy (r ++ [k]))) := by
    intro c
    induction c with
    | zero =>
      intro r k hr ho hk hix
      have hr' : r = [] := List.eq_nil_of_length_eq_zero hr
      subst hr'
      have hz := hsz [] ho
      obtain ⟨g1, g2⟩ := hdg [] k ho (by omega)
      have hw : dp_wy ([] ++ [k]) = 16 + k := by rw [dp_wy_s]; rfl
      unfold wY_tellDeep_52
      rw [eg]
      refine br_f (by rw [hw]; exact nI_ge (a := 15) (by omega) (by omega)) ⟨hin, ym_hasWay hx hy h0 R0 g1 g2 (fun w => br_f (by decide) ?_) (fun w => br_t rfl ⟨by decide, ?_⟩)⟩
      · have l4 := dp_len hx _ s0 ds V0 de d4 w
        exact h2 _ w (by omega) (by rw [dp_ix_s]; exact hix)
      · have hkz : k = (Z (dp_at P [] s0)).toNatClampNeg := by
          rcases Nat.lt_or_ge k (Z (dp_at P [] s0)).toNatClampNeg with z | z
          · exact absurd ((dp_ok_s Z P k [] s0).mpr ⟨ho, z⟩) w
          · omega
        rw [hw]
        refine nm_r (show nI (16 + k) / 16 + 1 = nI 2 from ?_) (br_f (by decide) ?_)
        · rw [show nI (16 + k) / 16 = nI ((16 + k) / 16) from pk_div (d := 16) (by omega) (by omega) (by omega), nI_1, show (16 + k) / 16 = 1 by omega]
        · unfold wY_tellDeep_52
          refine br_t (by decide) (h1 ?_)
          rw [dp_W hx V0]
          show _ = 1 + vv_sm (dp_w W P (dp_at P [] s0)) (Z (dp_at P [] s0)).toNatClampNeg
          rw [← hkz, ← hix]
          show 0 + 1 + _ = _
          omega
    | succ c ih =>
      intro r k hr ho hk hix
      have hz := hsz r ho
      obtain ⟨g1, g2⟩ := hdg r k ho (by omega)
      have hwb := (dp_wy_b (r ++ [k]) g1)
      have hw24 := dp_wy_1 (r ++ [k]) g1 g2
      have hws := dp_wy_s r k
      have hne : r ≠ [] := by
        intro e
        rw [e] at hr
        simp at hr
      obtain ⟨r', k', rfl⟩ : ∃ r' k', r = r' ++ [k'] := ⟨r.dropLast, r.getLast hne, (List.dropLast_concat_getLast hne).symm⟩
      rw [List.length_append, List.length_singleton] at hr
      obtain ⟨o1, o2⟩ := (dp_ok_s Z P k' r' s0).mp ho
      have hz' := hsz r' o1
      have hws' := dp_wy_s r' k'
      have hws2 := dp_wy_s r' (k' + 1)
      have hb1 := (dp_wy_b r' (fun j hj => by
        have := (dp_len hx r' s0 ds V0 de d4 o1).2 j hj
        omega)).1
      have hp1 : 0 < 16 ^ r'.length := Nat.pow_pos (by decide)
      unfold wY_tellDeep_52
      rw [eg]
      refine br_f (nI_ge (a := 15) (by omega) (by omega)) ⟨hin, ym_hasWay hx hy h0 R0 g1 g2 (fun w => br_f (by decide) ?_) (fun w => br_t rfl ⟨by decide, ?_⟩)⟩
      · have l4 := dp_len hx _ s0 ds V0 de d4 w
        exact h2 _ w (by omega) (by rw [dp_ix_s]; exact hix)
      · have hkz : k = (Z (dp_at P (r' ++ [k']) s0)).toNatClampNeg := by
          rcases Nat.lt_or_ge k (Z (dp_at P (r' ++ [k']) s0)).toNatClampNeg with z | z
          · exact absurd ((dp_ok_s Z P k (r' ++ [k']) s0).mpr ⟨ho, z⟩) w
          · omega
        refine nm_r (show nI (dp_wy (r' ++ [k'] ++ [k])) / 16 + 1 = nI (dp_wy (r' ++ [k' + 1])) from ?_) (br_t (nI_le (a := 16) (by omega) (by omega)) ?_)
        · rw [show nI (dp_wy (r' ++ [k'] ++ [k])) / 16 = nI (dp_wy (r' ++ [k'] ++ [k]) / 16) from pk_div (d := 16) (by omega) (by omega) (by omega), nI_1]
          congr 1
          omega
        · refine ih r' (k' + 1) (by omega) o1 (by omega) ?_
          rw [← hix, dp_ix_s, hkz, vv_sm]
          have hW := dp_W hx (dp_V hx (r' ++ [k']) s0 V0 ho)
          have hdw : dp_w W P (dp_at P r' s0) k' = (W (dp_at P (r' ++ [k']) s0)).toNatClampNeg := by rw [dp_at_s]; rfl
          rw [hdw, hW]
          omega
  refine ⟨p.length + 2, ?_⟩
  have := key p.length p 0 rfl hok (Nat.zero_le _) (by rw [vv_sm])
  rw [dp_wy_s, Nat.add_zero] at this
  rw [show nI (dp_wy p) * 16 = nI (dp_wy p * 16) from pk_mul _ 16]
  exact this
