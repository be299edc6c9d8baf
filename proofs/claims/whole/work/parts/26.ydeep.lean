/-! ===== deep: Y ===== -/
theorem dp_wy_1 (p : List Nat) (h : ∀ k, k ∈ p → k < 16) (hl : p.length ≤ 5) : dp_wy p < 2 ^ 24 := by
  have h1 := (dp_wy_b p h).2
  have h2 : 16 ^ p.length ≤ 16 ^ 5 := Nat.pow_le_pow_right (by decide) hl
  omega
theorem ym_steps {yma ypo yhe yvm : Int32} {yin : Int64} {yfi yde yap yas yto : Int32} {yan : Int64} {yco yti yna yac yen yic : Int32} {o l kS d : Nat → Int32} {pl ys : Nat → Int64} {yk yn yp yf yo : Nat → Int32} {yi : Nat → Int64} {yw ya y1 y2 : Nat → Int32} {yK : Nat → Int64} {yW : Nat → Int32} {yL : Nat → Int64} {yq nm : Nat → Int32} {nv : Nat → Int64} {no : Nat → Int32} {yA lf rt : Nat → Int64} {iK iN : Nat → Int32} {post : Int32 → Prop} {p : List Nat} (hd : ∀ k, k ∈ p → k < 16) (hl : p.length ≤ 5) (hp : post (nI p.length)) : wpY_steps post (yma, ypo, yhe, yvm, yin, yfi, yde, yap, yas, yto, yan, yco, yti, yna, yac, yen, yic, o, l, kS, d, pl, ys, yk, yn, yp, yf, yo, yi, yw, ya, y1, y2, yK, yW, yL, yq, nm, nv, no, yA, lf, rt, iK, iN) (nI (dp_wy p)) := by
  have key : ∀ c (q : List Nat), q.length = c → c ≤ p.length → (∀ k, k ∈ q → k < 16) → wY_steps_4 post yma ypo yhe yvm yin yfi yde yap yas yto yan yco yti yna yac yen yic o l kS d pl ys yk yn yp yf yo yi yw ya y1 y2 yK yW yL yq nm nv no yA lf rt iK iN (c + 1) (nI (p.length - c)) (nI (dp_wy q)) := by
    intro c
    induction c with
    | zero =>
      intro q hq hc hk
      have hq' : q = [] := List.eq_nil_of_length_eq_zero hq
      subst hq'
      unfold wY_steps_4
      exact br_t (by show nI 1 ≤ 15; decide) hp
    | succ c ih =>
      intro q hq hc hk
      have hne : q ≠ [] := by
        intro e
        rw [e] at hq
        simp at hq
      have hsp := List.dropLast_concat_getLast hne
      have hlast := hk _ (List.getLast_mem hne)
      have hmem : ∀ k, k ∈ q.dropLast → k ∈ q := fun k hk' => by rw [← hsp]; exact List.mem_append_left _ hk'
      have hwy : dp_wy q = dp_wy q.dropLast * 16 + q.getLast hne := by
        conv => lhs; rw [← hsp]
        exact dp_wy_s _ _
      have hb := dp_wy_1 q hk (by omega)
      have h1 := (dp_wy_b q.dropLast (fun k hk' => hk k (hmem k hk'))).1
      have hp1 : 0 < 16 ^ q.dropLast.length := Nat.pow_pos (by decide)
      have hih := ih q.dropLast (by rw [List.length_dropLast, hq]; rfl) (by omega) (fun k hk' => hk k (hmem k hk'))
      unfold wY_steps_4
      refine br_f (nI_ge (a := 15) (by omega) (by omega)) ⟨by decide, nm_r (pk_div (d := 16) (by omega) (by omega) (by omega)) (nm_r (nI_1 _) ?_)⟩
      rw [show dp_wy q / 16 = dp_wy q.dropLast by omega, show p.length - (c + 1) + 1 = p.length - c by omega]
      exact hih
  unfold wpY_steps
  dsimp only
  have := key p.length p rfl (Nat.le_refl _) hd
  rw [Nat.sub_self] at this
  exact ⟨_, this⟩
theorem yd_dig {q r : List Nat} {k : Nat} (hk : k < 16) (hr : ∀ j, j ∈ r → j < 16) (hq : ∀ j, j ∈ q → j < 16) (hl : (q ++ k :: r).length ≤ 5) : (nI (dp_wy (q ++ k :: r)) >>> ((4 * nI r.length) &&& 31)) &&& 15 = nI k := by
  have hb := dp_wy_1 (q ++ k :: r) (fun j hj => by
    rcases List.mem_append.mp hj with z | z
    · exact hq j z
    · rcases List.mem_cons.mp z with z | z
      · omega
      · exact hr j z) hl
  have hlen : r.length ≤ 4 := by
    rw [List.length_append, List.length_cons] at hl
    omega
  have hd := dp_dig q r k hr hk
  have e4 : (4 : Int32) * nI r.length = nI (4 * r.length) := pk_mul 4 r.length
  have hs : dp_wy (q ++ k :: r) / 2 ^ (4 * r.length) = dp_wy (q ++ k :: r) / 16 ^ r.length := by rw [Nat.pow_mul]
  rw [e4, pk_shrN (by omega) _ (4 * r.length) (s_l (4 * r.length) (by omega)), hs, pk_andN (m := 15) (Nat.lt_of_le_of_lt (Nat.div_le_self _ _) (by omega)) 4 (by decide)]
  rw [show (2 : Nat) ^ 4 = 16 from rfl, hd]
section
variable {V : Nat → Prop} {K N Z D Im W P : Nat → Int32} {o l kS d : Nat → Int32} {pl : Nat → Int64} {mk pd : Nat}
/-- a value of Y, seen from X's slot -/
theorem yd_see (hx : vv_ox V K N Z D Im W P) (hy : vv_cy mk pd o l pl) {c : Nat} {w : Int64} (hc : c < 653) (h : vv_R V K N Z D P mk o l kS d pl (nI c) w) :
    ∃ κ x, κ ≤ 5 ∧ w = yy_t κ x ∧ K c = nI κ ∧ V c ∧ ((κ < 4 ∧ N c = x ∧ Z c = 0 ∧ D c = 0) ∨ (4 ≤ κ ∧ ∃ j a b, j < 760 ∧ x = nI j ∧ o j = nI a ∧ l j = nI b ∧ b ≤ 10 ∧ a + b ≤ 8200 ∧ N c = kS j ∧ Z c = nI b ∧ D c = d j ∧ ∀ i, i < b → dp_ch P c i < 653 ∧ P (c * 10 + i) = nI (dp_ch P c i) ∧ vv_R V K N Z D P mk o l kS d pl (nI (dp_ch P c i)) (pl (a + i)))) := by
  obtain ⟨n, κ, x, c1, c2, c3, c4, c5, c6, c7⟩ := vv_R_is hx hy h
  have e : n = c := (nI_eq (by omega) (by omega)).mp c1.symm
  subst e
  refine ⟨κ, x, c4, c5, c6, c3, ?_⟩
  rcases c7 with w | ⟨w1, j, a, b, j1, j2, j3, j4, j5, j6, j7, j8, j9, j10⟩
  · exact Or.inl w
  · have h7 := hy.1
    have h8 := hy.2.1
    refine Or.inr ⟨w1, j, a, b, by omega, j2, j3, j4, j5, by omega, j7, j8, j9, fun i hi => ?_⟩
    have hR := j10 i hi
    obtain ⟨m, m1, m2, _⟩ := hR
    have em : dp_ch P n i = m := by rw [dp_ch, m1, nI_clamp (by omega)]
    rw [em]
    refine ⟨m2, m1, ?_⟩
    have hR := j10 i hi
    rw [m1] at hR
    exact hR
end
theorem ym_hasWay {yma ypo yhe yvm : Int32} {yin : Int64} {yfi yde yap yas yto : Int32} {yan : Int64} {yco yti yna yac yen yic : Int32} {o l kS d : Nat → Int32} {pl ys : Nat → Int64} {yk yn yp yf yo : Nat → Int32} {yi : Nat → Int64} {yw ya y1 y2 : Nat → Int32} {yK : Nat → Int64} {yW : Nat → Int32} {yL : Nat → Int64} {yq nm : Nat → Int32} {nv : Nat → Int64} {no : Nat → Int32} {yA lf rt : Nat → Int64} {iK iN : Nat → Int32} {V : Nat → Prop} {K N Z D Im W P : Nat → Int32} {mk pd s0 : Nat} {w0 : Int64} {post : Int32 → Prop} {p : List Nat} (hx : vv_ox V K N Z D Im W P) (hy : vv_cy mk pd o l pl) (h0 : s0 < 653) (R0 : vv_R V K N Z D P mk o l kS d pl (nI s0) w0)
    (hd : ∀ k, k ∈ p → k < 16) (hl : p.length ≤ 5) (h1 : dp_ok Z P p s0 → post 1) (h2 : ¬ dp_ok Z P p s0 → post 0) : wpY_hasWay post (yma, ypo, yhe, yvm, yin, yfi, yde, yap, yas, yto, yan, yco, yti, yna, yac, yen, yic, o, l, kS, d, pl, ys, yk, yn, yp, yf, yo, yi, yw, ya, y1, y2, yK, yW, yL, yq, nm, nv, no, yA, lf, rt, iK, iN) w0 (nI (dp_wy p)) := by
  have key : ∀ (r q : List Nat) (c : Nat) (w : Int64), p = q ++ r → c < 653 → vv_R V K N Z D P mk o l kS d pl (nI c) w → (dp_ok Z P r c → post 1) → (¬ dp_ok Z P r c → post 0) → wY_hasWay_16 post (nI (dp_wy p)) yma ypo yhe yvm yin yfi yde yap yas yto yan yco yti yna yac yen yic o l kS d pl ys yk yn yp yf yo yi yw ya y1 y2 yK yW yL yq nm nv no yA lf rt iK iN (r.length + 1) w (nI r.length - 1) := by
    intro r
    induction r with
    | nil =>
      intro q c w hq hc hR h1 _
      unfold wY_hasWay_16
      exact br_t (by show nI 0 - 1 < 0; decide) (h1 trivial)
    | cons k r ih =>
      intro q c w hq hc hR h1 h2
      have hk : k < 16 := hd k (by rw [hq]; simp)
      have hr : ∀ j, j ∈ r → j < 16 := fun j hj => hd j (by rw [hq]; simp [hj])
      have hqq : ∀ j, j ∈ q → j < 16 := fun j hj => hd j (by rw [hq]; simp [hj])
      have hdg := yd_dig hk hr hqq (by rw [← hq]; exact hl)
      rw [← hq] at hdg
      unfold wY_hasWay_16
      rw [List.length_cons, nI_pred, hdg]
      have hlr : r.length < 2 ^ 31 := by
        have := hl
        rw [hq, List.length_append, List.length_cons] at this
        omega
      refine br_f (nI_pos hlr) (nm_e ?_)
      obtain ⟨κ, x, k5, rfl, _, _, ⟨a1, a2, a3, a4⟩ | ⟨a1, j, a, b, b1, rfl, b3, b4, b5, b6, b7, b8, b9, b10⟩⟩ := yd_see hx hy hc hR
      · refine ym_sort (by omega) (br_t (nI_lt (b := 4) a1 (by omega)) (h2 (fun z => ?_)))
        have := z.1
        rw [a3] at this
        exact absurd this (by rw [show (0 : Int32).toNatClampNeg = 0 from by decide]; omega)
      · refine ym_sort (by omega) (br_f (nI_nlt (b := 4) a1 (by omega)) (ym_lengthOf b1 ?_))
        rw [b4]
        have ez : (Z c).toNatClampNeg = b := by rw [b8, nI_clamp (by omega)]
        refine pk_lt k b (fun z => ?_) (fun z => h2 (fun w => ?_))
        · obtain ⟨d1, d2, d3⟩ := b10 k z
          refine ym_place b1 b3 (by omega) (nm_r (yc_m1 _) ?_)
          exact ih (q ++ [k]) (dp_ch P c k) _ (by rw [hq]; simp) d1 d3 (fun w => h1 ⟨by rw [ez]; exact z, w⟩) (fun w => h2 (fun w' => w w'.2))
        · have := w.1
          rw [ez] at this
          omega
  unfold wpY_hasWay
  dsimp only
  exact ym_steps hd hl (nm_e ⟨_, key p [] s0 w0 rfl h0 R0 h1 h2⟩)
theorem ym_atWay {yma ypo yhe yvm : Int32} {yin : Int64} {yfi yde yap yas yto : Int32} {yan : Int64} {yco yti yna yac yen yic : Int32} {o l kS d : Nat → Int32} {pl ys : Nat → Int64} {yk yn yp yf yo : Nat → Int32} {yi : Nat → Int64} {yw ya y1 y2 : Nat → Int32} {yK : Nat → Int64} {yW : Nat → Int32} {yL : Nat → Int64} {yq nm : Nat → Int32} {nv : Nat → Int64} {no : Nat → Int32} {yA lf rt : Nat → Int64} {iK iN : Nat → Int32} {V : Nat → Prop} {K N Z D Im W P : Nat → Int32} {mk pd s0 : Nat} {w0 : Int64} {post : Int64 → Prop} {p : List Nat} (hx : vv_ox V K N Z D Im W P) (hy : vv_cy mk pd o l pl) (h0 : s0 < 653) (R0 : vv_R V K N Z D P mk o l kS d pl (nI s0) w0)
    (hd : ∀ k, k ∈ p → k < 16) (hl : p.length ≤ 5) (hok : dp_ok Z P p s0) (hp : ∀ w, vv_R V K N Z D P mk o l kS d pl (nI (dp_at P p s0)) w → post w) : wpY_atWay post (yma, ypo, yhe, yvm, yin, yfi, yde, yap, yas, yto, yan, yco, yti, yna, yac, yen, yic, o, l, kS, d, pl, ys, yk, yn, yp, yf, yo, yi, yw, ya, y1, y2, yK, yW, yL, yq, nm, nv, no, yA, lf, rt, iK, iN) w0 (nI (dp_wy p)) := by
  have key : ∀ (r q : List Nat) (c : Nat) (w : Int64), p = q ++ r → c < 653 → vv_R V K N Z D P mk o l kS d pl (nI c) w → dp_ok Z P r c → (∀ w, vv_R V K N Z D P mk o l kS d pl (nI (dp_at P r c)) w → post w) → wY_atWay_16 post (nI (dp_wy p)) yma ypo yhe yvm yin yfi yde yap yas yto yan yco yti yna yac yen yic o l kS d pl ys yk yn yp yf yo yi yw ya y1 y2 yK yW yL yq nm nv no yA lf rt iK iN (r.length + 1) w (nI r.length - 1) := by
    intro r
    induction r with
    | nil =>
      intro q c w hq hc hR _ h1
      unfold wY_atWay_16
      exact br_t (by show nI 0 - 1 < 0; decide) (h1 w hR)
    | cons k r ih =>
      intro q c w hq hc hR hok h1
      have hk : k < 16 := hd k (by rw [hq]; simp)
      have hr : ∀ j, j ∈ r → j < 16 := fun j hj => hd j (by rw [hq]; simp [hj])
      have hqq : ∀ j, j ∈ q → j < 16 := fun j hj => hd j (by rw [hq]; simp [hj])
      have hdg := yd_dig hk hr hqq (by rw [← hq]; exact hl)
      rw [← hq] at hdg
      unfold wY_atWay_16
      rw [List.length_cons, nI_pred, hdg]
      have hlr : r.length < 2 ^ 31 := by
        have := hl
        rw [hq, List.length_append, List.length_cons] at this
        omega
      refine br_f (nI_pos hlr) ?_
      obtain ⟨o1, o2⟩ := hok
      obtain ⟨κ, x, k5, rfl, _, _, ⟨a1, a2, a3, a4⟩ | ⟨a1, j, a, b, b1, rfl, b3, b4, b5, b6, b7, b8, b9, b10⟩⟩ := yd_see hx hy hc hR
      · rw [a3] at o1
        exact absurd o1 (by rw [show (0 : Int32).toNatClampNeg = 0 from by decide]; omega)
      · rw [b8, nI_clamp (by omega)] at o1
        obtain ⟨d1, d2, d3⟩ := b10 k o1
        refine ym_place b1 b3 (by omega) (nm_r (yc_m1 _) ?_)
        exact ih (q ++ [k]) (dp_ch P c k) _ (by rw [hq]; simp) d1 d3 o2 h1
  unfold wpY_atWay
  dsimp only
  exact ym_steps hd hl (nm_e ⟨_, key p [] s0 w0 rfl h0 R0 hok hp⟩)
