/-! ===== a nested value more, in both ===== -/
theorem gr_nest {V : Nat → Prop} {bo rm mk pd : Nat} {K N Z D Im W P K0 N0 Z0 D0 I0 W0 P0 K' N' Z' D' Im' W' P' : Nat → Int32} {o l kS d : Nat → Int32} {pl pl' : Nat → Int64} (hh : md_hx V bo rm K N Z D Im W P K0 N0 Z0 D0 I0 W0 P0) (hrm : rm < 600) (hcy : vv_cy mk pd o l pl) (hmk : mk < 760)
    {κ z kk : Nat} {key : Int32} {ch : Nat → Int32} {c e q w : Nat → Nat} (hpd : pd + z ≤ 8200) (hns : vv_ns (53 + rm) κ z kk key ch e q w K N Z D Im W P K' N' Z' D' Im' W' P') (hc : ns_ch V D Im W (53 + rm) z ch c e q w) (hz : z ≤ 10) (hm : vv_mx e z ≤ 3)
    (h4 : (κ = 4 ∧ kk = 0 ∧ key = 0) ∨ (κ = 5 ∧ kk = 1 ∧ ∃ m, m < 256 ∧ key = nI m ∧ z = vv_pc m 8)) (e1 : ∀ i, i < pd → pl' i = pl i) (hR : ∀ i, i < z → vv_R V K N Z D P mk o l kS d pl (ch i) (pl' (pd + i))) :
    gr_X V (fun t => V t ∨ t = 53 + rm) (53 + rm) K N Z D Im W P K' N' Z' D' Im' W' P' ∧ gr_Y mk pd (mk + 1) (pd + z) o l kS d (upd o mk (nI pd)) (upd l mk (nI z)) (upd kS mk key) (upd d mk (nI (vv_mx e z + 1))) pl pl' ∧
    vv_R (fun t => V t ∨ t = 53 + rm) K' N' Z' D' P' (mk + 1) (upd o mk (nI pd)) (upd l mk (nI z)) (upd kS mk key) (upd d mk (nI (vv_mx e z + 1))) pl' (nI (53 + rm)) (yy_t κ (nI mk)) := by
  have hne : ∀ s, V s → s ≠ 53 + rm := fun s w e => by have := (hh.2.1 s w).2; omega
  have hgx : gr_X V (fun t => V t ∨ t = 53 + rm) (53 + rm) K N Z D Im W P K' N' Z' D' Im' W' P' := ⟨fun w => hne _ w rfl, by omega, fun _ w => Or.inl w, fun _ w => w, ns_ox hh.1 hns hne (by omega) hc hz hm h4, hns.1⟩
  have hgy : gr_Y mk pd (mk + 1) (pd + z) o l kS d (upd o mk (nI pd)) (upd l mk (nI z)) (upd kS mk key) (upd d mk (nI (vv_mx e z + 1))) pl pl' := ⟨by omega, by omega, cy_add hcy hmk (by omega) (Nat.le_refl _) hpd hz e1 (fun i hi => by
    obtain ⟨_, _, _, _, hvy, _⟩ := hR i hi
    exact hvy), fun j hj => ⟨pk_un (by omega), pk_un (by omega), pk_un (by omega), pk_un (by omega)⟩, e1⟩
  obtain ⟨_, n1, n2, n3, n4, n5, n6, n7⟩ := hns
  have hp8 := hcy.2.1
  refine ⟨hgx, hgy, vv_R_nest (a := pd) (b := z) (by omega) (Or.inr rfl) (by omega) n1 (by omega) (by omega) hz (by omega) pk_us pk_us (by rw [pk_us]; exact n2) n3 (by rw [pk_us]; exact n4) (fun i hi => ?_)⟩
  rw [n7 i hi]
  exact gr_R hh.1 hcy hgx hgy _ _ (hR i hi)
theorem yl_11' {yma ypo yhe yvm : Int32} {yin : Int64} {yfi yde yap yas yto : Int32} {yan : Int64} {yco yti yna yac yen yic : Int32} {o l kS d : Nat → Int32} {pl ys : Nat → Int64} {yk yn yp yf yo : Nat → Int32} {yi : Nat → Int64} {yw ya y1 y2 : Nat → Int32} {yK : Nat → Int64} {yW : Nat → Int32} {yL : Nat → Int64} {yq nm : Nat → Int32} {nv : Nat → Int64} {no : Nat → Int32} {yA lf rt : Nat → Int64} {iK iN : Nat → Int32} {post : SY → Prop} {g κ : Nat} {x px : Int32} (hg : g < 600) (ew : yi g = yy_t κ x) (hκ : κ ≤ 5) (hA : ∀ Q : SY → Prop, (∀ (yma' ypo' yhe' yvm' : Int32) (yin' : Int64) (yfi' yde' yap' yas' yto' : Int32) (yan' : Int64) (yco' yti' yna' yac' yen' yic' : Int32) (o' l' kS' d' : Nat → Int32) (pl' ys' : Nat → Int64) (yk' yn' yp' yf' yo' : Nat → Int32) (yi' : Nat → Int64) (yw' ya' y1' y2' : Nat → Int32) (yK' : Nat → Int64) (yW' : Nat → Int32) (yL' : Nat → Int64) (yq' nm' : Nat → Int32) (nv' : Nat → Int64) (no' : Nat → Int32) (yA' lf' rt' : Nat → Int64) (iK' iN' : Nat → Int32), post (yma', ypo', yhe', yvm', yin', yfi', yde', yap', yas', yto', yan', yco', yti', yna', yac', yen', yic', o', l', kS', d', pl', ys', yk', yn', yp', yf', yo', yi', yw', ya', y1', y2', yK', yW', yL', yq', nm', nv', no', yA', lf', rt', iK', iN') → Q (yma', ypo', yhe', yvm', yin', yfi', yde', yap', yas', yto', yan', yco', yti', yna', yac', yen', yic', o', l', kS', d', pl', ys', yk', yn', yp', yf', yo', yi', yw', ya', y1', y2', yK', yW', yL', yq', nm', nv', no', yA', lf', rt', iK', iN')) → wpY_tellKeys Q (yma, ypo, yhe, yvm, yin, yfi, yde, yap, yas, yto, yan, yco, yti, yna, yac, yen, yic, o, l, kS, d, pl, ys, yk, yn, yp, yf, yo, yi, yw, ya, y1, y2, yK, yW, yL, yq, nm, nv, no, yA, lf, rt, iK, iN) (yy_t κ x) (nI κ)) : wpY_tellLeaf post (yma, ypo, yhe, yvm, yin, yfi, yde, yap, yas, yto, yan, yco, yti, yna, yac, yen, yic, o, l, kS, d, pl, ys, yk, yn, yp, yf, yo, yi, yw, ya, y1, y2, yK, yW, yL, yq, nm, nv, no, yA, lf, rt, iK, iN) (nI g) (nI 11) px := by
  have eg' : (nI g).toNatClampNeg = g := nI_clamp (by omega)
  have hin : vp_in (nI g) 601 := vp_in_nI (by omega) (by omega)
  unfold wpY_tellLeaf
  dsimp only
  rw [eg', ew]
  refine ⟨hin, nm_e (ym_sort (by omega) ?_)⟩
  refine br_t (by decide) (br_f (by decide) (br_f (by decide) (br_f (by decide) (br_t rfl (hA _ ?_)))))
  intros
  assumption
/-- the keys of a value, as X and as Y count them -/
def kc_c (κ m z k : Nat) : Nat := if κ = 4 then min k z else vv_pc m k
def kc_e (κ m i : Nat) : Nat := if κ = 4 then i else ky_k m i 8
theorem kc_hi {m k : Nat} (hm : m < 256) (hk : 8 ≤ k) : m / 2 ^ k = 0 := by
  apply Nat.div_eq_of_lt
  have : 2 ^ 8 ≤ 2 ^ k := Nat.pow_le_pow_right (by omega) hk
  omega
theorem kc_on {κ m z k : Nat} (hκ : κ = 4 ∨ κ = 5) (h5 : κ = 5 → m < 256 ∧ z = vv_pc m 8) (hk : k < 10) :
    ((κ = 4 → k < z) ∧ (κ = 5 → m / 2 ^ k % 2 = 1) ∧ kc_c κ m z (k + 1) = kc_c κ m z k + 1 ∧ kc_e κ m (kc_c κ m z k) = k) ∨ ((κ = 4 → z ≤ k) ∧ (κ = 5 → m / 2 ^ k % 2 = 0) ∧ kc_c κ m z (k + 1) = kc_c κ m z k) := by
  unfold kc_c kc_e
  by_cases e4 : κ = 4
  · rw [if_pos e4, if_pos e4, if_pos e4]
    by_cases h : k < z
    · exact Or.inl ⟨fun _ => h, fun w => absurd w (by omega), by omega, by omega⟩
    · exact Or.inr ⟨fun _ => by omega, fun w => absurd w (by omega), by omega⟩
  · obtain ⟨hm, hz⟩ := h5 (by omega)
    rw [if_neg e4, if_neg e4, if_neg e4, vv_pc_s]
    by_cases h8 : k < 8
    · by_cases hb : m / 2 ^ k % 2 = 1
      · exact Or.inl ⟨fun w => absurd w e4, fun _ => hb, by omega, ky_u hm h8 hb rfl⟩
      · exact Or.inr ⟨fun w => absurd w e4, fun _ => by omega, by omega⟩
    · have := kc_hi (k := k) hm (by omega)
      exact Or.inr ⟨fun w => absurd w e4, fun _ => by omega, by omega⟩
theorem kc_10 {κ m z : Nat} (hκ : κ = 4 ∨ κ = 5) (h5 : κ = 5 → m < 256 ∧ z = vv_pc m 8) (hz : z ≤ 10) : kc_c κ m z 0 = 0 ∧ kc_c κ m z 10 = z := by
  unfold kc_c
  by_cases e4 : κ = 4
  · rw [if_pos e4, if_pos e4]
    omega
  · obtain ⟨hm, hz⟩ := h5 (by omega)
    rw [if_neg e4, if_neg e4, vv_pc_s, vv_pc_s, kc_hi hm (by omega), kc_hi hm (by omega)]
    exact ⟨rfl, by omega⟩
theorem cq_l11 {post : SX → Prop} {T : List Nat → Option vv_L} {nf bo np : Nat} {K0 N0 Z0 D0 I0 W0 P0 : Nat → Int32} {xst xow xin xpa xfi xfr xno xsi xan xkn xen xco xrm xac : Int32} {K N Z D Im W P vS pO pX pI fS fP fI fU fR fO fA fH fG fN aS qL qR qP : Nat → Int32} {st : Nat} {V al : Nat → Prop} {g : Nat} {pa : List Nat} {n c rm a : Nat}
    (hX : md_X V al g pa bo np n c rm a st xfr xno xsi xen xco xrm xac K N Z D Im W P K0 N0 Z0 D0 I0 W0 P0 pO pX fP fU fR fO fA fH fG) (hv : mv_X V n xsi xan pO fP fI fH fN) (ha : ma_X V a aS)
    (hM : ∀ (mk0 pd0 : Nat) (v0 : SY), kn_F T np nf pO pX pI fS mk0 pd0 v0 → rm_M V pa g np n c rm a st xsi xan K N Z D W P pO pX pI fP fI fO fA fH fG fN aS mk0 pd0 v0)
    (H : lp_G T nf bo np K0 N0 Z0 D0 I0 W0 P0 post xst xow xin xpa xfi xkn vS pO pX pI fS st) {q : Nat} (eP : fP g = nI q) (hqn : q < np) (hq : q < 40) (eO : pO q = nI 11) (es : xsi = 0) (eG : fG g = 0) : wX_workOut_68 post (1000001 - st) (nI st) xst xow xin xpa xfi xfr xno xsi xan xkn xen xco xrm xac K N Z D Im W P vS pO pX pI fS fP fI fU fR fO fA fH fG fN aS qL qR qP := by
  subst es
  obtain ⟨hg, hn6, hst, hlen, _⟩ := mx_f hX
  have hX0 := hX
  obtain ⟨⟨x1, x2, x3, x4, x5, x6, x7, x8, x9, x10⟩, hs, hh, hb, hf, hr, hG, hpot⟩ := hX
  have hfo := mx_fo eP hq eO (by omega)
  obtain ⟨s, eI, hVs⟩ := (hv.2 g hg).1
  obtain ⟨hs6, κ, hκ, eK⟩ := vx_k hh.1 hVs
  refine cq_leafgo hst x3 rfl x2 (by omega) eP hq eO (by omega) (by omega) (by omega) eG ?_
  obtain ⟨hA, hO1⟩ := fr_leaf (hf.2.1 g hg) (by omega)
  have hrm := rm_lt hX0 eG hA
  obtain ⟨z, hz, ez, hcz⟩ := vv_ox_z hh.1 hVs
  obtain ⟨m, hm⟩ := vx_m hh.1 hVs eK hκ
  have hm5 : κ = 5 → m < 256 ∧ z = vv_pc m 8 := fun e => by
    obtain ⟨m1, m2, m3⟩ := hm e
    have h10 := vv_pc_8 (m := m)
    exact ⟨m1, (nI_eq (by omega) (by omega)).mp (ez.symm.trans m3)⟩
  have hke : 3 < κ → ∀ i, i < z → kc_e κ m i < 10 := fun h i hi => by
    unfold kc_e
    by_cases e4 : κ = 4
    · rw [if_pos e4]; omega
    · rw [if_neg e4]
      obtain ⟨m1, m2⟩ := hm5 (by omega)
      have h8 := vv_pc_8' (m := m)
      have := (ky_t m m1 i (by omega) (by omega)).1
      omega
  by_cases k3 : κ ≤ 3
  · refine xl_11 x2 (by omega) eP hq eO eI hs6 (fun Q hQ' => xl_keys (V := fun _ => False) (z := z) (ke := fun _ => 0) (c := fun _ => 0) (e := fun _ => 0) (q := fun _ => 0) (w := fun _ => 0) hs6 eK hκ x5 hrm ez hz (by have := (hh.2.1 s hVs).2; omega) (fun w => absurd w (by omega)) (fun w => absurd w (by omega)) (fun i hi => ?_) (fun _ w => w.elim) (fun _ => hQ' _ _ _ _ _ _ _ _ _ _ _ _ _ _ _ _ _ _ _ _ _ _ _ _ _ _ _ _ _ _ _ _ _ _ _ _ _ _ _ ?_) (fun w => absurd w (by omega)))
    · have : z = 0 := by
        obtain ⟨_, w, _⟩ := rl_plain hh.1 hVs k3 eK
        exact (nI_eq (b := 0) (by omega) (by omega)).mp (ez.symm.trans w)
      omega
    · refine lp_K H (by omega) (rm_leaf2 hX0 hv ha hM rfl hfo (by omega) (by omega) (by omega) (by omega) eG (Or.inr (Or.inr rfl)) (fun w => absurd w (by decide)) (fun mk0 pd0 mk pd nd yhe yvm yin yfi yde yic ys yk yn yp yf iK iN o0 l0 kS0 d0 pl0 yma ypo yap yas yto yan yco yti yna yac yen o l kS d pl yo yi yw ya y1 y2 yK yW yL yq nm nv no yA lf rt hY e0 Q hQ => ?_))
      obtain ⟨⟨b1, b2, b3, b4, b5, b6, b7, b8, b9, b10, b11⟩, hfl, hen, hhy, hby, hfr, han, hq0, hq1, hz1, hz2, hz3⟩ := hY
      obtain ⟨t1, t2, t3, t4, t5⟩ := hfr g hg
      obtain ⟨ey, eq⟩ := hq0 rfl
      have eyo := t1.symm.trans eP
      rw [hfo] at t5
      obtain ⟨x, e1, e2⟩ := my_v hh.1 hhy.1 t2 eI hs6 eK hκ
      rw [e31] at hQ
      exact ys_leaf' (by omega) eyo hq (my_k 11 rfl (by omega) (hfl q hqn) eO) (by omega) (by omega) (by omega) (by omega) e0 (fun Q hQ' => yl_11' (by omega) e1 hκ (fun Q hQ2 => yk_keys2 (by omega) ey (hQ2 _ _ _ _ _ _ _ _ _ _ _ _ _ _ _ _ _ _ _ _ _ _ _ _ _ _ _ _ _ _ _ _ _ _ _ _ _ _ _ _ _ _ _ _ _ (hQ' _ _ _ _ _ _ _ _ _ _ _ _ _ _ _ _ _ _ _ _ _ _ _ _ _ _ _ _ _ _ _ _ _ _ _ _ _ _ _ _ _ _ _ _ _ (hQ _ (fun w => absurd w (by decide)))))))
  · have h45 : κ = 4 ∨ κ = 5 := by omega
    obtain ⟨c', e', q', w', hns⟩ := ns_ex (s := 53 + rm) (z := z) (ch := fun i => nI (3 + kc_e κ m i)) hh.1 (fun i hi => ⟨3 + kc_e κ m i, rfl, (hh.2.2.2.1.2 _ (hke (by omega) i hi)).1, fun w => absurd w (by omega)⟩)
    have he0 : vv_mx e' z = 0 := by
      have : vv_mx e' z ≤ 0 := vv_mx_le (fun i hi => by
        obtain ⟨n1, n2, n3, n4, n5, n6, _⟩ := hns i hi
        have hk := hke (by omega) i hi
        obtain ⟨w1, w2, w3⟩ := hh.2.2.2.1.2 _ hk
        obtain ⟨_, _, w5, _⟩ := rl_plain hh.1 w1 (by omega) w2
        have : 3 + kc_e κ m i = c' i := (nI_eq (by omega) (by omega)).mp n1
        rw [← this, w5] at n5
        have := (nI_eq (a := 0) (by omega) (by omega)).mp n5
        omega)
      omega
    subst x4
    refine xl_11 x2 (by omega) eP hq eO eI hs6 (fun Q hQ' => xl_keys (V := V) (z := z) (ke := kc_e κ m) hs6 eK hκ x5 hrm ez hz (by have := (hh.2.1 s hVs).2; omega) (fun e4 i hi => by unfold kc_e; rw [if_pos e4]) (fun e5 => ?_) hns (fun t w e => by have := (hh.2.1 t w).2; omega) (fun w => absurd w k3) (fun _ K' N' Z' D' Im' W' P' hvn => hQ' _ _ _ _ _ _ _ _ _ _ _ _ _ _ _ _ _ _ _ _ _ _ _ _ _ _ _ _ _ _ _ _ _ _ _ _ _ _ _ ?_))
    · obtain ⟨m1, m2, m3⟩ := hm e5
      obtain ⟨_, m4⟩ := hm5 e5
      refine ⟨m, m1, m2, m4, fun i hi => ?_⟩
      have h8 := vv_pc_8' (m := m)
      have := ky_t m m1 i (by omega) (by omega)
      unfold kc_e
      rw [if_neg (by omega)]
      exact this
    · have hgx : gr_X V (fun t => V t ∨ t = 53 + rm) (53 + rm) K N Z D Im W P K' N' Z' D' Im' W' P' := by
        have hne : ∀ s, V s → s ≠ 53 + rm := fun s w e => by have := (hh.2.1 s w).2; omega
        exact ⟨fun w => hne _ w rfl, by omega, fun _ w => Or.inl w, fun _ w => w, ns_ox hh.1 hvn hne (by omega) hns hz (by omega) (Or.inl ⟨rfl, rfl, rfl⟩), hvn.1⟩
      refine lp_K H (by omega) (rm_leaf (k := 2) (gv := 1) (c' := c) (rm' := rm + 1) (sl := 53 + rm) (s' := 1) hX0 hv ha hM rfl (by omega) (by omega) (Or.inl rfl) (by omega) hA (by omega) (fun w => absurd w (by decide)) (Or.inl rfl) x9 (fun _ => Or.inl ⟨eG, by decide, hO1⟩) (Or.inr ⟨rfl, eG, by decide⟩) hgx (fun _ => by omega) (Nat.le_refl _) (by omega) (fun _ => ⟨53 + rm, rfl, Or.inr rfl⟩) (fun mk0 pd0 mk pd nd yhe yvm yin yfi yde yic ys yk yn yp yf iK iN o0 l0 kS0 d0 pl0 yma ypo yap yas yto yan yco yti yna yac yen o l kS d pl yo yi yw ya y1 y2 yK yW yL yq nm nv no yA lf rt hY Q hQ => ?_))
      obtain ⟨⟨b1, b2, b3, b4, b5, b6, b7, b8, b9, b10, b11⟩, hfl, hen, hhy, hby, hfr, han, hq0, hq1, hz1, hz2, hz3⟩ := hY
      obtain ⟨t1, t2, t3, t4, t5⟩ := hfr g hg
      obtain ⟨ey, eq⟩ := hq0 rfl
      have eyo := t1.symm.trans eP
      rw [hfo] at t5
      obtain ⟨x, e1, e2⟩ := my_v hh.1 hhy.1 t2 eI hs6 eK hκ
      have c8 := hhy.2.2.2.2.1
      have c7 := hhy.2.2.1
      have e0 : ya g = 0 := by
        obtain ⟨_, _, _, w⟩ := t5.1 (by omega)
        rw [← w (by omega) (by omega) (by omega)]
        exact eG
      rcases e2 with ⟨w, _⟩ | ⟨_, j, oa, b, j1, j2, j3, j4, j5, j6, j7, j8, j9, j10⟩
      · omega
      · have : b = z := (nI_eq (by omega) (by omega)).mp (j8.symm.trans ez)
        subst this
        have hm8 := hhy.1.1
        subst j2
        obtain ⟨k1, k2⟩ := kc_10 h45 hm5 hz
        refine ys_leaf' (by omega) eyo hq (my_k 11 rfl (by omega) (hfl q hqn) eO) (by omega) (by omega) (by omega) (by omega) e0 (fun Q hQ' => yl_11' (by omega) e1 hκ (fun Q hQ2 => yk_keys (z := b) (m := m) (cn := kc_c κ m b) (ke := kc_e κ m) (pd := pd) (mk := mk) h45 (by omega) (fun _ => j4) (fun e5 => ⟨j7.symm.trans (hm e5).2.1, (hm e5).1⟩) hz k1 k2 (fun k hk => kc_on h45 hm5 hk) ey b2 (by omega) b1 (by omega) (fun pl' g1 g2 => hQ2 _ _ _ _ _ _ _ _ _ _ _ _ _ _ _ _ _ _ _ _ _ _ _ _ _ _ _ _ _ _ _ _ _ _ _ _ _ _ _ _ _ _ _ _ _ (hQ' _ _ _ _ _ _ _ _ _ _ _ _ _ _ _ _ _ _ _ _ _ _ _ _ _ _ _ _ _ _ _ _ _ _ _ _ _ _ _ _ _ _ _ _ _ ?_))))
        obtain ⟨_, r2, r3⟩ := gr_nest (κ := 4) (kk := 0) (key := 0) (kS := kS) (d := d) hh hrm hhy.1 (show mk < 760 by omega) (show pd + b ≤ 8200 by omega) hvn hns hz (by omega) (Or.inl ⟨rfl, rfl, rfl⟩) g1 (fun i hi => by
          rw [g2 i hi]
          obtain ⟨w1, w2, w3⟩ := hh.2.2.2.1.2 _ (hke (by omega) i hi)
          obtain ⟨_, w4, w5, _⟩ := rl_plain hh.1 w1 (by omega) w2
          exact vv_R_plain (by have := hke (by omega) i hi; omega) w1 (by omega) w2 w3 w4 w5)
        rw [he0] at r2 r3
        subst b4
        refine hQ (mk + 1) (pd + b) (upd o mk (nI pd)) (upd l mk (nI b)) (upd kS mk 0) (upd d mk (nI 1)) pl' (upd ya g 1) yW (yy_t 4 (nI mk)) r2 (by omega) (by omega) (fun j' x' h1 h2 h3 h4 => ?_) (fun _ => r3) (fun f hf => ⟨pk_un hf, rfl⟩) ?_
        · have : j' = mk := by omega
          rw [this, pk_us] at h3
          have := (nI_eq (by omega) h4).mp h3
          omega
        · rw [hfo]
          exact fr_S_leaf (by omega) (by omega) (by omega) hA hO1 rfl (fun _ => pk_us)
/-! ===== asked, whatever the op ===== -/
theorem cq_ask {post : SX → Prop} {T : List Nat → Option vv_L} {nf bo np : Nat} {K0 N0 Z0 D0 I0 W0 P0 : Nat → Int32} {xst xow xin xpa xfi xfr xno xsi xan xkn xen xco xrm xac : Int32} {K N Z D Im W P vS pO pX pI fS fP fI fU fR fO fA fH fG fN aS qL qR qP : Nat → Int32} {st : Nat} {V al : Nat → Prop} {g : Nat} {pa : List Nat} {n c rm a : Nat}
    (hX : md_X V al g pa bo np n c rm a st xfr xno xsi xen xco xrm xac K N Z D Im W P K0 N0 Z0 D0 I0 W0 P0 pO pX fP fU fR fO fA fH fG) (hv : mv_X V n xsi xan pO fP fI fH fN) (ha : ma_X V a aS)
    (hM : ∀ (mk0 pd0 : Nat) (v0 : SY), kn_F T np nf pO pX pI fS mk0 pd0 v0 → rm_M V pa g np n c rm a st xsi xan K N Z D W P pO pX pI fP fI fO fA fH fG fN aS mk0 pd0 v0)
    (H : lp_G T nf bo np K0 N0 Z0 D0 I0 W0 P0 post xst xow xin xpa xfi xkn vS pO pX pI fS st) (es : xsi = 0) : wX_workOut_68 post (1000001 - st) (nI st) xst xow xin xpa xfi xfr xno xsi xan xkn xen xco xrm xac K N Z D Im W P vS pO pX pI fS fP fI fU fR fO fA fH fG fN aS qL qR qP := by
  obtain ⟨hg, hn6, hst, hlen, q, eP, hqn, hq⟩ := mx_f hX
  have hX0 := hX
  obtain ⟨⟨x1, x2, x3, x4, x5, x6, x7, x8, x9, x10⟩, hs, hh, hb, hf, hr, hG, hpot⟩ := hX
  obtain ⟨gv, eG, hgs⟩ := hG g hg
  obtain ⟨yk', hfp⟩ := H.1 q hqn
  obtain ⟨oq, p1, eO, p3, p4, p5, p6, p13, p18, p20, p33, p35⟩ := hfp
  have hfo := mx_fo eP hq eO p1
  have hg0 : gv = 0 → fG g = 0 := fun w => by rw [eG, w]; rfl
  by_cases e7 : oq = 7
  · subst e7; exact cq_each hX0 hv ha hM H eP hqn hq eO es
  by_cases e15 : oq = 15
  · subst e15; exact cq_deep hX0 hv ha hM H eP hqn hq eO es
  by_cases h1 : (oq < 16 ∨ oq = 16 ∨ oq = 35) ∧ 0 < gv
  · exact cq_thru (x := 0) hX0 hv ha hM H eP hqn hq p1 e7 e15 eO es eG (by omega) (Or.inr h1)
  by_cases h16 : oq < 16
  · have eG0 := hg0 (by omega)
    rcases (show oq = 0 ∨ oq = 1 ∨ oq = 2 ∨ oq = 3 ∨ oq = 4 ∨ oq = 5 ∨ oq = 6 ∨ oq = 8 ∨ oq = 9 ∨ oq = 10 ∨ oq = 11 ∨ oq = 12 ∨ oq = 13 ∨ oq = 14 by omega) with e | e | e | e | e | e | e | e | e | e | e | e | e | e <;> subst e
    · exact cq_l0 hX0 hv ha hM H eP hqn hq eO es eG0
    · exact cq_l1 hX0 hv ha hM H eP hqn hq eO es eG0
    · exact cq_l2 hX0 hv ha hM H eP hqn hq eO es eG0
    · exact cq_l3 hX0 hv ha hM H eP hqn hq eO es eG0
    · exact cq_l4 hX0 hv ha hM H eP hqn hq eO es eG0
    · obtain ⟨m, m1, m2⟩ := p5 rfl
      exact cq_l5 hX0 hv ha hM H eP hqn hq eO es eG0 m2 m1
    · exact cq_l6 hX0 hv ha hM H eP hqn hq eO es eG0
    · exact cq_l8 hX0 hv ha hM H eP hqn hq eO es eG0
    · exact cq_l9 hX0 hv ha hM H eP hqn hq eO es eG0
    · exact cq_l10 hX0 hv ha hM H eP hqn hq eO es eG0
    · exact cq_l11 hX0 hv ha hM H eP hqn hq eO es eG0
    · exact cq_l12 hX0 hv ha hM H eP hqn hq eO es eG0
    · obtain ⟨m, m1, m2⟩ := p13 rfl
      exact cq_l13 hX0 hv ha hM H eP hqn hq eO es eG0 m2 m1
    · exact cq_l14 hX0 hv ha hM H eP hqn hq eO es eG0
  have hrs := hf.2.2.2.2.2.1 g (hf.2.2.2.1 g List.mem_cons_self) (Or.inr ⟨Or.inl es, rfl⟩)
  by_cases e16 : oq = 16
  · subst e16
    have eG0 := hg0 (by omega)
    have hA : fA g = -1 := Decidable.byContradiction (fun w => hrs.1 ⟨Or.inl hfo, w, eG0⟩)
    exact cq_all0 hX0 hv ha hM H eP hqn hq eO es eG0 hA
  by_cases e35 : oq = 35
  · subst e35
    have eG0 := hg0 (by omega)
    have hA : fA g = -1 := Decidable.byContradiction (fun w => hrs.1 ⟨Or.inr hfo, w, eG0⟩)
    refine cq_fold0 hX0 hv ha hM H eP hqn hq eO es eG0 hA ?_
    obtain ⟨_, h2, _⟩ := hf.2.1 g hg
    rcases h2 with w | ⟨_, _, _, w⟩
    · exact w
    · exact absurd hA w
  by_cases e18 : oq = 18
  · obtain ⟨m, m1, m2⟩ := p18 e18
    by_cases hm : gv < m
    · by_cases hA : fA g = -1
      · exact cq_new0 (x := m) hX0 hv ha hM H eP hqn hq (by omega) (by omega) eO es eG (by omega) (fun _ => ⟨m2, m1, hm⟩) hA
      · exact cq_down (x := m) hX0 hv ha hM H eP hqn hq (by omega) (by omega) eO es eG (by omega) (fun _ => ⟨m2, m1, hm⟩) hA
    · exact cq_thru (x := m) hX0 hv ha hM H eP hqn hq p1 e7 e15 eO es eG (by omega) (Or.inl ⟨e18, m2, m1, by omega⟩)
  by_cases hA : fA g = -1
  · exact cq_new0 (x := 0) hX0 hv ha hM H eP hqn hq (by omega) (by omega) eO es eG (by omega) (fun w => absurd w e18) hA
  · exact cq_down (x := 0) hX0 hv ha hM H eP hqn hq (by omega) (by omega) eO es eG (by omega) (fun w => absurd w e18) hA
