def yc_F : Nat → Nat
  | 0 => 1
  | d + 1 => 2 + 10 * yc_F d
theorem oo_h_k {K N : Nat → Int32} {s t : Nat} (h : oo_h K N s t = 0) : K s = K t := by
  unfold oo_h at h
  by_cases e : K s = K t
  · exact e
  · rw [if_neg e] at h
    by_cases le : K t ≤ K s
    · rw [if_pos le] at h; exact absurd h (by decide)
    · rw [if_neg le] at h; exact absurd h (by decide)
theorem yc_val {yma ypo yhe yvm : Int32} {yin : Int64} {yfi yde yap yas yto : Int32} {yan : Int64} {yco yti yna yac yen yic : Int32} {o l kS d : Nat → Int32} {pl ys : Nat → Int64} {yk yn yp yf yo : Nat → Int32} {yi : Nat → Int64} {yw ya y1 y2 : Nat → Int32} {yK : Nat → Int64} {yW : Nat → Int32} {yL : Nat → Int64} {yq nm : Nat → Int32} {nv : Nat → Int64} {no : Nat → Int32} {yA lf rt : Nat → Int64} {iK iN : Nat → Int32} {V : Nat → Prop} {K N Z D Im W P : Nat → Int32} {mk pd : Nat} {post : Int32 → SY → Prop} (hx : vv_ox V K N Z D Im W P) (hy : vv_cy mk pd o l pl) :
    ∀ dd s t (a b : Int64) M n (lf rt : Nat → Int64), s < 653 → t < 653 → vv_R V K N Z D P mk o l kS d pl (nI s) a → vv_R V K N Z D P mk o l kS d pl (nI t) b → (∃ e, D s = nI e ∧ e ≤ dd) → (∃ e, D t = nI e ∧ e ≤ dd) → M + 12 * dd < 280 → lf M = a → rt M = b →
    (¬ oo_c (oo_h K N) Z P dd s t = 0 → ∀ lf' rt' : Nat → Int64, post (oo_c (oo_h K N) Z P dd s t) (yma, ypo, yhe, yvm, yin, yfi, yde, yap, yas, yto, yan, yco, yti, yna, yac, yen, yic, o, l, kS, d, pl, ys, yk, yn, yp, yf, yo, yi, yw, ya, y1, y2, yK, yW, yL, yq, nm, nv, no, yA, lf', rt', iK, iN)) →
    (oo_c (oo_h K N) Z P dd s t = 0 → ∀ lf' rt' : Nat → Int64, (∀ i, i < M → lf' i = lf i ∧ rt' i = rt i) → ∀ n', n ≤ n' → wY_compare_17 post yma ypo yhe yvm yin yfi yde yap yas yto yan yco yti yna yac yen yic n' (nI M) o l kS d pl ys yk yn yp yf yo yi yw ya y1 y2 yK yW yL yq nm nv no yA lf' rt' iK iN) →
    ∀ n', n + yc_F dd ≤ n' → wY_compare_17 post yma ypo yhe yvm yin yfi yde yap yas yto yan yco yti yna yac yen yic n' (nI (M + 1)) o l kS d pl ys yk yn yp yf yo yi yw ya y1 y2 yK yW yL yq nm nv no yA lf rt iK iN := by
  intro dd
  induction dd with
  | zero =>
    intro s t a b M n lf rt hs ht Rs Rt hDs hDt hM el er hdone hcont n' hn'
    obtain ⟨n1, rfl⟩ : ∃ n1, n' = n1 + 1 := ⟨n' - 1, by unfold yc_F at hn'; omega⟩
    refine yc_head hx hy hs ht Rs Rt (by omega) el er ?_
    by_cases hh : oo_h K N s t = 0
    · obtain ⟨s1, κ, x, c1, c2, c3, c4, c5, c6, c7⟩ := vv_R_is hx hy Rs
      have es : s1 = s := (nI_eq (by omega) (by omega)).mp c1.symm
      subst es
      have k3 : κ < 4 := by
        obtain ⟨e, x1, x2⟩ := hDs
        obtain ⟨_, ⟨k1, a1, a2, -⟩ | ⟨k1, z, e2, a1, a2, a3, a4, a5, a6, -⟩⟩ := hx s1 c3
        · have := rl_not45 c6 a2 (by omega) (by omega)
          omega
        · have := (nI_eq (by omega) (by omega)).mp (x1.symm.trans a5)
          omega
      rw [hh, c6]
      unfold wY_compare_129
      refine br_t rfl (br_t (nI_le (b := 3) (by omega) (by omega)) (hcont hh lf rt (fun _ _ => ⟨rfl, rfl⟩) n1 (by unfold yc_F at hn'; omega)))
    · exact yc_129e hh (hdone hh lf rt)
  | succ dd ihd =>
    intro s t a b M n lf rt hs ht Rs Rt hDs hDt hM el er hdone hcont n' hn'
    have hF : yc_F (dd + 1) = 2 + 10 * yc_F dd := rfl
    obtain ⟨n1, rfl⟩ : ∃ n1, n' = n1 + 1 := ⟨n' - 1, by omega⟩
    refine yc_head hx hy hs ht Rs Rt (by omega) el er ?_
    by_cases hh : oo_h K N s t = 0
    case neg =>
      rw [oo_c_h hh] at hdone
      exact yc_129e hh (hdone hh lf rt)
    have hc0 := oo_c_0 (K := K) (N := N) (Z := Z) (P := P) (d := dd + 1) hh (fun z => absurd z (by omega))
    obtain ⟨s1, κ, x, c1, c2, c3, c4, c5, c6, c7⟩ := vv_R_is hx hy Rs
    obtain ⟨t1, κ', x', d1, d2, d3, d4, d5, d6, d7⟩ := vv_R_is hx hy Rt
    have es : s1 = s := (nI_eq (by omega) (by omega)).mp c1.symm
    have et : t1 = t := (nI_eq (by omega) (by omega)).mp d1.symm
    subst es et
    have kk : κ = κ' := (nI_eq (by omega) (by omega)).mp (c6.symm.trans ((oo_h_k hh).trans d6))
    subst kk
    rcases c7 with ⟨w1, w2, w3, w4⟩ | ⟨w1, j, oa, la, j1, j2, j3, j4, j5, j6, j7, j8, j9, j10⟩
    · rcases d7 with ⟨v1, v2, v3, v4⟩ | ⟨v1, -⟩
      case inr => omega
      have h0 : oo_c (oo_h K N) Z P (dd + 1) s1 t1 = 0 := by
        have z0 : (0 : Int32).toNatClampNeg = 0 := by decide
        rw [hc0, oo_r_e (by rw [w3, v3, z0]; omega), w3, v3, oo_sg_r]
      rw [hh, c6]
      unfold wY_compare_129
      exact br_t rfl (br_t (nI_le (b := 3) (by omega) (by omega)) (hcont h0 lf rt (fun _ _ => ⟨rfl, rfl⟩) n1 (by omega)))
    rcases d7 with ⟨v1, -⟩ | ⟨v1, j', ob, lb, i1, i2, i3, i4, i5, i6, i7, i8, i9, i10⟩
    · omega
    have h7 := hy.1
    have h8 := hy.2.1
    rw [hh, c6, c5, d5, j2, i2]
    refine yc_push (by omega) w1 c4 (by omega) (by omega) j3 j4 i3 i4 j5 i5 (by omega) (by omega) (fun lf1 rt1 g1 g2 g3 g4 => ?_)
    have zs : (Z s1).toNatClampNeg = la := by rw [j8, nI_clamp (by omega)]
    have zt : (Z t1).toNatClampNeg = lb := by rw [i8, nI_clamp (by omega)]
    have loop : ∀ c q (lf2 rt2 : Nat → Int64), q + c = min la lb → (∀ i, i < M → lf2 i = lf i ∧ rt2 i = rt i) → lf2 M = yy_t 3 (nI la) → rt2 M = yy_t 3 (nI lb) → (∀ i, q ≤ i → i < min la lb → lf2 (M + min la lb - i) = pl (oa + i) ∧ rt2 (M + min la lb - i) = pl (ob + i)) →
        oo_c (oo_h K N) Z P (dd + 1) s1 t1 = oo_r K N Z P (dd + 1) s1 t1 q → ∀ n2, n + 1 + c * yc_F dd ≤ n2 → wY_compare_17 post yma ypo yhe yvm yin yfi yde yap yas yto yan yco yti yna yac yen yic n2 (nI (M + 1 + c)) o l kS d pl ys yk yn yp yf yo yi yw ya y1 y2 yK yW yL yq nm nv no yA lf2 rt2 iK iN := by
      intro c
      induction c with
      | zero =>
        intro q lf2 rt2 hq f1 f2 f3 f4 hr n2 hn2
        obtain ⟨n3, rfl⟩ : ∃ n3, n2 = n3 + 1 := ⟨n2 - 1, by omega⟩
        have he : oo_c (oo_h K N) Z P (dd + 1) s1 t1 = oo_sg la lb := by rw [hr, oo_r_e (by rw [zs, zt]; omega), zs, zt]
        rw [he] at hdone hcont
        exact yc_len (by omega) j5 i5 f2 f3 (fun z => hdone z lf2 rt2) (fun z => hcont z lf2 rt2 f1 n3 (by omega))
      | succ c ihc =>
        intro q lf2 rt2 hq f1 f2 f3 f4 hr n2 hn2
        have hmin : q < min (Z s1).toNatClampNeg (Z t1).toNatClampNeg := by rw [zs, zt]; omega
        have hrs := oo_r_s (K := K) (N := N) (P := P) (dd := dd + 1) hmin
        rw [show dd + 1 - 1 = dd from rfl] at hrs
        obtain ⟨p1, p2⟩ := f4 q (Nat.le_refl _) (by omega)
        rw [show M + min la lb - q = M + 1 + c by omega] at p1 p2
        obtain ⟨za, ea, _, _, za3, za4, _, za6⟩ := oo_slot hx c3
        obtain ⟨zb, eb, _, _, zb3, zb4, _, zb6⟩ := oo_slot hx d3
        have hza : za = la := (nI_eq (by omega) (by omega)).mp (za3.symm.trans j8)
        have hzb : zb = lb := (nI_eq (by omega) (by omega)).mp (zb3.symm.trans i8)
        obtain ⟨sc, e', q1, q2, q3, q4, q5, q6⟩ := za6 q (by omega)
        obtain ⟨tc, e2', r1, r2, r3, r4, r5, r6⟩ := zb6 q (by omega)
        have hda : ea ≤ dd + 1 := by
          obtain ⟨e, x1, x2⟩ := hDs
          have := (nI_eq (by omega) (by omega)).mp (za4.symm.trans x1)
          omega
        have hdb : eb ≤ dd + 1 := by
          obtain ⟨e, x1, x2⟩ := hDt
          have := (nI_eq (by omega) (by omega)).mp (zb4.symm.trans x1)
          omega
        have Ra := j10 q (by omega)
        have Rb := i10 q (by omega)
        rw [q1] at Ra
        rw [r1] at Rb
        rw [q2, r2] at hrs
        rw [show M + 1 + (c + 1) = M + 1 + c + 1 by omega]
        have hm : (c + 1) * yc_F dd = c * yc_F dd + yc_F dd := Nat.succ_mul _ _
        refine ihd sc tc (pl (oa + q)) (pl (ob + q)) (M + 1 + c) (n + 1 + c * yc_F dd) lf2 rt2 q3 r3 Ra Rb ⟨e', q5, by omega⟩ ⟨e2', r5, by omega⟩ (by omega) p1 p2 ?_ ?_ n2 (by omega)
        · intro hne lf3 rt3
          rw [if_neg hne] at hrs
          rw [hr, hrs] at hdone
          exact hdone hne lf3 rt3
        · intro h0 lf3 rt3 hag n3 hn3
          rw [if_pos h0] at hrs
          refine ihc (q + 1) lf3 rt3 (by omega) (fun i hi => ?_) ?_ ?_ (fun i hi hi' => ?_) (hr.trans hrs) n3 hn3
          · exact ⟨(hag i (by omega)).1.trans (f1 i hi).1, (hag i (by omega)).2.trans (f1 i hi).2⟩
          · exact (hag M (by omega)).1.trans f2
          · exact (hag M (by omega)).2.trans f3
          · exact ⟨(hag _ (by omega)).1.trans (f4 i (by omega) hi').1, (hag _ (by omega)).2.trans (f4 i (by omega) hi').2⟩
    have hm : min la lb * yc_F dd ≤ 10 * yc_F dd := Nat.mul_le_mul_right _ (by omega)
    exact loop (min la lb) 0 lf1 rt1 (by omega) g1 g2 g3 (fun i _ hi => g4 i hi) hc0 n1 (by omega)
theorem ym_compare {yma ypo yhe yvm : Int32} {yin : Int64} {yfi yde yap yas yto : Int32} {yan : Int64} {yco yti yna yac yen yic : Int32} {o l kS d : Nat → Int32} {pl ys : Nat → Int64} {yk yn yp yf yo : Nat → Int32} {yi : Nat → Int64} {yw ya y1 y2 : Nat → Int32} {yK : Nat → Int64} {yW : Nat → Int32} {yL : Nat → Int64} {yq nm : Nat → Int32} {nv : Nat → Int64} {no : Nat → Int32} {yA lf rt : Nat → Int64} {iK iN : Nat → Int32} {V : Nat → Prop} {K N Z D Im W P : Nat → Int32} {mk pd s t : Nat} {post : Int32 → SY → Prop} {a b : Int64} (hx : vv_ox V K N Z D Im W P) (hy : vv_cy mk pd o l pl) (hs : s < 653) (ht : t < 653) (Rs : vv_R V K N Z D P mk o l kS d pl (nI s) a) (Rt : vv_R V K N Z D P mk o l kS d pl (nI t) b)
    (hp : ∀ lf' rt' : Nat → Int64, post (oo_c (oo_h K N) Z P 4 s t) (yma, ypo, yhe, yvm, yin, yfi, yde, yap, yas, yto, yan, yco, yti, yna, yac, yen, yic, o, l, kS, d, pl, ys, yk, yn, yp, yf, yo, yi, yw, ya, y1, y2, yK, yW, yL, yq, nm, nv, no, yA, lf', rt', iK, iN)) : wpY_compare post (yma, ypo, yhe, yvm, yin, yfi, yde, yap, yas, yto, yan, yco, yti, yna, yac, yen, yic, o, l, kS, d, pl, ys, yk, yn, yp, yf, yo, yi, yw, ya, y1, y2, yK, yW, yL, yq, nm, nv, no, yA, lf, rt, iK, iN) a b := by
  have Rs0 := Rs
  have Rt0 := Rt
  obtain ⟨s1, e1, e2, e3, _⟩ := Rs
  obtain ⟨t1, f1, f2, f3, _⟩ := Rt
  have es : s1 = s := (nI_eq (by omega) (by omega)).mp e1.symm
  have et : t1 = t := (nI_eq (by omega) (by omega)).mp f1.symm
  subst es et
  obtain ⟨ds, d4, de⟩ := vv_D hx e3
  obtain ⟨dt, dt4, dte⟩ := vv_D hx f3
  unfold wpY_compare
  dsimp only
  refine nm_e (nm_e ⟨1 + yc_F 4, ?_⟩)
  refine yc_val (lf := lf) (rt := rt) hx hy 4 s1 t1 a b 0 1 _ _ hs ht Rs0 Rt0 ⟨ds, de, d4⟩ ⟨dt, dte, dt4⟩ (by omega) pk_uLs pk_uLs (fun _ lf' rt' => hp lf' rt') (fun h0 lf' rt' _ n' hn' => ?_) _ (Nat.le_refl _)
  obtain ⟨n1, rfl⟩ : ∃ n1, n' = n1 + 1 := ⟨n' - 1, by omega⟩
  have := hp lf' rt'
  rw [h0] at this
  unfold wY_compare_17
  exact br_t (by decide) this
