/-! ===== items: one list, and X's way to each ===== -/
def it_k (kb g : Nat → List (Int32 × Int32)) : Nat → List (Int32 × Int32)
  | 0 => []
  | n + 1 => it_k kb g n ++ (kb n ++ g n)
def it_x (K N Z P : Nat → Int32) : Nat → Nat → List (Int32 × Int32)
  | 0, s => [(K s, N s)]
  | d + 1, s => if K s = nI 4 then (4, 0) :: (it_k (fun _ => []) (fun i => it_x K N Z P d (dp_ch P s i)) (Z s).toNatClampNeg ++ [(5, 0)])
    else if K s = nI 5 then (6, 0) :: (it_k (fun i => [(7, nI (ky_k (N s).toNatClampNeg i 8))]) (fun i => it_x K N Z P d (dp_ch P s i)) (Z s).toNatClampNeg ++ [(8, 0)])
    else [(K s, N s)]
theorem it_k_len (kb g : Nat → List (Int32 × Int32)) : ∀ n, (it_k kb g n).length = vv_sm (fun i => (kb i ++ g i).length) n
  | 0 => rfl
  | n + 1 => by rw [it_k, List.length_append, it_k_len kb g n, vv_sm]
theorem it_k_get {kb g : Nat → List (Int32 × Int32)} : ∀ {n i r : Nat}, i < n → r < (kb i ++ g i).length → (it_k kb g n)[vv_sm (fun i => (kb i ++ g i).length) i + r]? = (kb i ++ g i)[r]? := by
  intro n
  induction n with
  | zero => intro i r hi; omega
  | succ n ih =>
    intro i r hi hr
    rw [it_k]
    by_cases e : i = n
    · subst e
      rw [List.getElem?_append_right (by rw [it_k_len]; omega), it_k_len]
      congr 1
      omega
    · have h1 := vv_sm_up (f := fun i => (kb i ++ g i).length) (show i < n by omega)
      have h1' : vv_sm (fun i => (kb i ++ g i).length) i + (kb i ++ g i).length ≤ vv_sm (fun i => (kb i ++ g i).length) n := h1
      rw [List.getElem?_append_left (by rw [it_k_len]; omega)]
      exact ih (by omega) hr
/-- as many items as X has counted -/
theorem it_x_len {V : Nat → Prop} {K N Z D Im W P : Nat → Int32} (hx : vv_ox V K N Z D Im W P) : ∀ d s, V s → (D s).toNatClampNeg ≤ d → d ≤ 4 → (it_x K N Z P d s).length = (Im s).toNatClampNeg := by
  intro d
  induction d with
  | zero =>
    intro s hs hd _
    obtain ⟨_, hl | hl⟩ := hx s hs
    · obtain ⟨k, _, _, _, _, _, hi, _⟩ := hl
      rw [it_x, hi]
      rfl
    · obtain ⟨k, z, d', _, _, _, _, hd', h4, _⟩ := hl
      rw [hd', nI_clamp (by omega)] at hd
      omega
  | succ d ih =>
    intro s hs hd h4d
    obtain ⟨_, hl | hl⟩ := hx s hs
    · obtain ⟨k, k1, k2, _, _, _, hi, _⟩ := hl
      rw [it_x, if_neg (fun e => by have := (nI_eq (by omega) (by omega)).mp (k2.symm.trans e); omega), if_neg (fun e => by have := (nI_eq (by omega) (by omega)).mp (k2.symm.trans e); omega), hi]
      rfl
    · obtain ⟨k, z, d', k1, k2, hz, hz10, hd', h4, hc, _, h5, hi, _⟩ := hl
      rw [hd', nI_clamp (by omega)] at hd
      have hch : ∀ i, i < z → V (dp_ch P s i) ∧ (D (dp_ch P s i)).toNatClampNeg ≤ d ∧ dp_ch P s i = (P (s * 10 + i)).toNatClampNeg := fun i hi => by
        obtain ⟨c, e1, e2, e3, _, e, e4, e5⟩ := hc i hi
        rw [dp_ch, e1, nI_clamp (by omega)]
        exact ⟨e3, by rw [e5, nI_clamp (by omega)]; omega, rfl⟩
      have hsum : ∀ (kb : Nat → List (Int32 × Int32)), (∀ i, (kb i).length = k - 4) → (it_k kb (fun i => it_x K N Z P d (dp_ch P s i)) z).length = vv_sm (fun i => k - 4 + (Im (P (s * 10 + i)).toNatClampNeg).toNatClampNeg) z := fun kb hkb => by
        rw [it_k_len]
        apply vv_sm_c
        intro i hi
        obtain ⟨c1, c2, c3⟩ := hch i hi
        rw [List.length_append, hkb, ih _ c1 c2 (by omega), c3]
      obtain ⟨⟨iv, e1, e2, e3⟩, _⟩ := vv_IW4 hx hs
      have hiv : iv = 2 + vv_sm (fun i => k - 4 + (Im (P (s * 10 + i)).toNatClampNeg).toNatClampNeg) z := by
        have hb : vv_sm (fun i => k - 4 + (Im (P (s * 10 + i)).toNatClampNeg).toNatClampNeg) z ≤ z * 23333 := by
          apply vv_sm_le
          intro i hi'
          obtain ⟨c1, c2, c3⟩ := hch i hi'
          obtain ⟨⟨q, a, b, c'⟩, _⟩ := vv_IW4 hx c1
          show k - 4 + (Im (P (s * 10 + i)).toNatClampNeg).toNatClampNeg ≤ _
          rw [← c3, a, nI_clamp (by omega)]
          omega
        have hb2 : z * 23333 ≤ 10 * 23333 := Nat.mul_le_mul_right _ hz10
        exact (nI_eq (by omega) (by omega)).mp (e1.symm.trans hi)
      rw [it_x, e1, nI_clamp (by omega), hz, nI_clamp (by omega)]
      rcases k1 with w | w <;> subst w
      · rw [if_pos k2, List.length_cons, List.length_append, hsum _ (fun _ => rfl), List.length_singleton]
        omega
      · rw [if_neg (fun e => absurd ((nI_eq (by omega) (by omega)).mp (k2.symm.trans e)) (by omega)), if_pos k2, List.length_cons, List.length_append, hsum _ (fun _ => rfl), List.length_singleton]
        omega
def it_p (k y : Int32) : Int64 := (k.toInt64 <<< ((32 : Int32).toInt64 &&& 63)) ||| (y.toInt64 &&& 4294967295)
theorem xi_137 {xst xow xin xpa xfi xfr xno xsi xan xkn xen xco xrm xac : Int32} {K N Z D Im W P vS pO pX pI fS fP fI fU fR fO fA fH fG fN aS qL qR qP : Nat → Int32} {post : Int64 → Prop} {J : Int32 → Int32 → Int32 → Prop} {s z z0 x5 t : Nat} {len : Nat → Nat} (hs : s < 653) (eZ : Z s = nI z) (hz : z ≤ 10) (hz0 : z0 ≤ 1) (hch : ∀ i, i < z → ∃ c q, P (s * 10 + i) = nI c ∧ c < 653 ∧ Im c = nI q ∧ q ≤ 23332 ∧ len i = z0 + q) (ht : t < vv_sm len z) (ht2 : t < 2 ^ 20)
    (h202 : ∀ i r c, i < z → P (s * 10 + i) = nI c → r < len i → t = vv_sm len i + r → wX_itemOf_202 post J (nI s) (nI r) (nI x5) (nI z0) (nI i) (nI c) xst xow xin xpa xfi xfr xno xsi xan xkn xen xco xrm xac K N Z D Im W P vS pO pX pI fS fP fI fU fR fO fA fH fG fN aS qL qR qP) :
    ∀ k i r c, i + k = z → 0 < k → P (s * 10 + i) = nI c → t = vv_sm len i + r → wX_itemOf_137 post J (nI s) (nI x5) (nI z0) xst xow xin xpa xfi xfr xno xsi xan xkn xen xco xrm xac K N Z D Im W P vS pO pX pI fS fP fI fU fR fO fA fH fG fN aS qL qR qP k (nI r) (nI i) (nI c) (nI (i + 1)) := by
  have es : (nI s).toNatClampNeg = s := nI_clamp (by omega)
  have his : vp_in (nI s) 653 := vp_in_nI hs (by omega)
  intro k
  induction k with
  | zero => intro i r c _ h0; omega
  | succ k ih =>
    intro i r c hik _ ec et
    obtain ⟨c', q, c1, c2, c3, c4, c5⟩ := hch i (by omega)
    have : c' = c ∨ c' ≠ c := by omega
    have ecc : nI c = nI c' := ec.symm.trans c1
    rw [ecc]
    have ec' : (nI c').toNatClampNeg = c' := nI_clamp (by omega)
    unfold wX_itemOf_137
    rw [es, eZ, ec', c3]
    refine ⟨his, pk_le z (i + 1) (fun hle => ?_) (fun hgt => ⟨vp_in_nI c2 (by omega), ?_⟩)⟩
    · have : i + 1 = z := by omega
      rw [← this, vv_sm] at ht
      exact h202 i r c' (by omega) c1 (by omega) et
    · rw [nI_add z0 q]
      refine pk_lt r (z0 + q) (fun hlt => h202 i r c' (by omega) c1 (by omega) et) (fun hge => ⟨vp_in_nI c2 (by omega), ?_⟩)
      rw [pk_sub hge, xi_10, nI_clamp (show s * 10 + (i + 1) < 2 ^ 31 by omega)]
      obtain ⟨c'', q'', d1, d2, d3, d4, d5⟩ := hch (i + 1) (by omega)
      refine nm_e ⟨vp_in_nI (by omega) (by omega), nm_e ?_⟩
      rw [d1]
      refine nm_r (nI_1 (i + 1)) ?_
      exact ih (i + 1) (r - (z0 + q)) c'' (by omega) (by omega) d1 (by rw [vv_sm]; omega)
theorem xi_58 {xst xow xin xpa xfi xfr xno xsi xan xkn xen xco xrm xac : Int32} {K N Z D Im W P vS pO pX pI fS fP fI fU fR fO fA fH fG fN aS qL qR qP : Nat → Int32} {V : Nat → Prop} (hx : vv_ox V K N Z D Im W P) {post : Int64 → Prop} : ∀ d x5 s r, x5 + d = 4 → V s → (D s).toNatClampNeg ≤ d → r < (Im s).toNatClampNeg → (∀ k y, (it_x K N Z P d s)[r]? = some (k, y) → post (it_p k y)) → wX_itemOf_58 post xst xow xin xpa xfi xfr xno xsi xan xkn xen xco xrm xac K N Z D Im W P vS pO pX pI fS fP fI fU fR fO fA fH fG fN aS qL qR qP (d + 1) (nI s) (nI r) (nI x5) := by
  intro d
  induction d with
  | zero =>
    intro x5 s r h4 hs hd hr hp
    have hs6 := (hx s hs).1
    have es : (nI s).toNatClampNeg = s := nI_clamp (by omega)
    have his : vp_in (nI s) 653 := vp_in_nI hs6 (by omega)
    have hl := it_x_len hx 0 s hs hd (by omega)
    rw [← hl, it_x] at hr
    have hr0 : r = 0 := by simpa using hr
    subst hr0
    unfold wX_itemOf_58
    refine br_t (nI_le (a := 4) (by omega) (by omega)) ?_
    unfold wX_itemOf_246 wpX_packed
    rw [es]
    exact ⟨his, his, hp (K s) (N s) rfl⟩
  | succ d ih =>
    intro x5 s r h4 hs hd hr hp
    have hs6 := (hx s hs).1
    have es : (nI s).toNatClampNeg = s := nI_clamp (by omega)
    have his : vp_in (nI s) 653 := vp_in_nI hs6 (by omega)
    have hlen := it_x_len hx (d + 1) s hs hd (by omega)
    have hxs := (hx s hs).2
    unfold wX_itemOf_58
    rw [es]
    refine br_f (nI_ge (b := 4) (by omega) (by omega)) ⟨his, ?_⟩
    rcases hxs with hl | hl
    · obtain ⟨k, k1, k2, _, _, _, hi, _⟩ := hl
      rw [hi, show (1 : Int32).toNatClampNeg = 1 from by decide] at hr
      have hr0 : r = 0 := by omega
      subst hr0
      rw [k2]
      refine br_t (nI_le (b := 3) k1 (by omega)) ?_
      unfold wX_itemOf_246 wpX_packed
      rw [es]
      refine ⟨his, his, hp (K s) (N s) ?_⟩
      rw [it_x, if_neg (fun e => by have := (nI_eq (by omega) (by omega)).mp (k2.symm.trans e); omega), if_neg (fun e => by have := (nI_eq (by omega) (by omega)).mp (k2.symm.trans e); omega)]
      rfl
    · obtain ⟨k, z, d', k1, k2, hz, hz10, hd', h4', hc, hN4, h5, hi, _⟩ := hl
      rw [hd', nI_clamp (by omega)] at hd
      obtain ⟨⟨iv, e1, e2, e3⟩, _⟩ := vv_IW4 hx hs
      rw [e1, nI_clamp (by omega)] at hr hlen
      have hch : ∀ i, i < z → ∃ c q, P (s * 10 + i) = nI c ∧ c < 653 ∧ V c ∧ (D c).toNatClampNeg ≤ d ∧ Im c = nI q ∧ q ≤ 23332 ∧ 1 ≤ q := fun i hi => by
        obtain ⟨c, f1, f2, f3, _, e, f4, f5⟩ := hc i hi
        obtain ⟨⟨q, a, b, c'⟩, _⟩ := vv_IW4 hx f3
        exact ⟨c, q, f1, f2, f3, by rw [f5, nI_clamp (by omega)]; omega, a, c', b⟩
      -- the list, whatever the kind
      obtain ⟨kb, ko, kc, hkb, hlist, ⟨hko1, hko2⟩, hkbk⟩ : ∃ (kb : Nat → List (Int32 × Int32)) (ko kc : Int32), (∀ i, (kb i).length = k - 4) ∧ it_x K N Z P (d + 1) s = (ko, 0) :: (it_k kb (fun i => it_x K N Z P d (dp_ch P s i)) z ++ [(kc, 0)]) ∧ ((k = 4 → ko = 4 ∧ kc = 5) ∧ (k = 5 → ko = 6 ∧ kc = 8)) ∧ ∀ i, i < z → k = 5 → ∃ m, m < 256 ∧ N s = nI m ∧ kb i = [(7, nI (ky_k m i 8))] ∧ i < vv_pc m 8 := by
        rcases k1 with w | w <;> subst w
        · refine ⟨fun _ => [], 4, 5, fun _ => rfl, ?_, ⟨fun _ => ⟨rfl, rfl⟩, fun w => absurd w (by omega)⟩, fun i _ w => absurd w (by omega)⟩
          rw [it_x, if_pos k2, hz, nI_clamp (by omega)]
        · obtain ⟨m, m1, m2, m3⟩ := h5 rfl
          refine ⟨fun i => [(7, nI (ky_k m i 8))], 6, 8, fun _ => rfl, ?_, ⟨fun w => absurd w (by omega), fun _ => ⟨rfl, rfl⟩⟩, fun i hi _ => ⟨m, m1, m2, rfl, by omega⟩⟩
          rw [it_x, if_neg (fun e => absurd ((nI_eq (by omega) (by omega)).mp (k2.symm.trans e)) (by omega)), if_pos k2, hz, nI_clamp (by omega), m2, nI_clamp (by omega)]
      clear h5 hN4
      have hlk := it_k_len kb (fun i => it_x K N Z P d (dp_ch P s i)) z
      rw [hlist, List.length_cons, List.length_append, hlk] at hlen
      simp only [List.length_cons, List.length_nil] at hlen
      rw [hlist] at hp
      rw [k2]
      refine br_f (nI_ge (a := 3) (by omega) (by omega)) ?_
      have hbr : ∀ x4 : Int32, (x4 = 0 → post (it_p ko 0)) → (¬ x4 = 0 → post (it_p kc 0)) → wX_itemOf_92 post (nI s) x4 xst xow xin xpa xfi xfr xno xsi xan xkn xen xco xrm xac K N Z D Im W P vS pO pX pI fS fP fI fU fR fO fA fH fG fN aS qL qR qP := fun x4 g0 g1 => by
        unfold wX_itemOf_92 wpX_bracket
        dsimp only
        rw [es, k2]
        refine ⟨his, pk_eq k 4 (fun w => ?_) (fun w => ?_)⟩
        · obtain ⟨a1, a2⟩ := hko1 w
          subst a1 a2
          refine br_c (fun h => ?_) (fun h => ?_)
          · unfold wX_bracket_19 wpX_packed; exact g0 h
          · unfold wX_bracket_19 wpX_packed; exact g1 h
        · obtain ⟨a1, a2⟩ := hko2 (by omega)
          subst a1 a2
          refine br_c (fun h => ?_) (fun h => ?_)
          · unfold wX_bracket_35 wpX_packed; exact g0 h
          · unfold wX_bracket_35 wpX_packed; exact g1 h
      refine pk_eq r 0 (fun h0 => ?_) (fun hn0 => ⟨his, ?_⟩)
      · subst h0
        exact hbr _ (fun _ => hp ko 0 rfl) (fun w => absurd rfl w)
      · rw [e1, show (nI iv : Int32) - 1 = nI (iv - 1) from pk_sub (b := 1) (by omega)]
        refine pk_eq r (iv - 1) (fun hl => ?_) (fun hnl => ?_)
        · refine hbr _ (fun w => absurd ((nI_eq (b := 0) (by omega) (by omega)).mp w) hn0) (fun _ => hp kc 0 ?_)
          obtain ⟨r', rfl⟩ : ∃ r', r = r' + 1 := ⟨r - 1, by omega⟩
          rw [List.getElem?_cons_succ, List.getElem?_append_right (by rw [hlk]; omega), hlk]
          rw [show r' - vv_sm (fun i => (kb i ++ it_x K N Z P d (dp_ch P s i)).length) z = 0 by omega]
          rfl
        · obtain ⟨r', rfl⟩ : ∃ r', r = r' + 1 := ⟨r - 1, by omega⟩
          have hrz : r' < vv_sm (fun i => (kb i ++ it_x K N Z P d (dp_ch P s i)).length) z := by omega
          have hz1 : 0 < z := Nat.pos_of_ne_zero (fun w => by rw [w, vv_sm] at hrz; omega)
          refine nm_r (pk_m1 r') ⟨his, ?_⟩
          have hk118 : ∀ z0 : Nat, z0 = k - 4 → wX_itemOf_118 post (wX_itemOf_58 post xst xow xin xpa xfi xfr xno xsi xan xkn xen xco xrm xac K N Z D Im W P vS pO pX pI fS fP fI fU fR fO fA fH fG fN aS qL qR qP (d + 1)) (nI s) (nI r') (nI x5) (nI z0) xst xow xin xpa xfi xfr xno xsi xan xkn xen xco xrm xac K N Z D Im W P vS pO pX pI fS fP fI fU fR fO fA fH fG fN aS qL qR qP := fun z0 hz0 => by
            unfold wX_itemOf_118
            obtain ⟨c, q, g1, g2, g3, g4, g5, g6, g7⟩ := hch 0 hz1
            rw [show nI s * 10 = nI (s * 10 + 0) from pk_mul s 10, nI_clamp (show s * 10 + 0 < 2 ^ 31 by omega), g1]
            refine ⟨vp_in_nI (by omega) (by omega), nm_e ⟨z, ?_⟩⟩
            refine xi_137 (len := fun i => (kb i ++ it_x K N Z P d (dp_ch P s i)).length) hs6 hz hz10 (by omega) (fun i hi => ?_) hrz (by omega) (fun i r2 c' hi ec hr2 et => ?_) z 0 r' c (by omega) hz1 g1 (by rw [vv_sm]; omega)
            · obtain ⟨c', q', a1, a2, a3, a4, a5, a6, a7⟩ := hch i hi
              refine ⟨c', q', a1, a2, a5, a6, ?_⟩
              show (kb i ++ it_x K N Z P d (dp_ch P s i)).length = _
              rw [List.length_append, hkb, it_x_len hx d _ (by rw [dp_ch, a1, nI_clamp (by omega)]; exact a3) (by rw [dp_ch, a1, nI_clamp (by omega)]; exact a4) (by omega), dp_ch, a1, nI_clamp (by omega), a5, nI_clamp (by omega), hz0]
            · obtain ⟨c2, q', a1, a2, a3, a4, a5, a6, a7⟩ := hch i hi
              have ecc : nI c' = nI c2 := ec.symm.trans a1
              have edp : dp_ch P s i = c2 := by rw [dp_ch, a1, nI_clamp (by omega)]
              have hr2' : r2 < (kb i ++ it_x K N Z P d (dp_ch P s i)).length := hr2
              have hget : (it_k kb (fun i => it_x K N Z P d (dp_ch P s i)) z)[r']? = (kb i ++ it_x K N Z P d (dp_ch P s i))[r2]? := by
                rw [et]
                exact it_k_get hi hr2'
              have hget2 : ((ko, (0 : Int32)) :: (it_k kb (fun i => it_x K N Z P d (dp_ch P s i)) z ++ [(kc, 0)]))[r' + 1]? = (kb i ++ it_x K N Z P d (dp_ch P s i))[r2]? := by
                rw [List.getElem?_cons_succ, List.getElem?_append_left (by rw [hlk]; exact hrz)]
                exact hget
              rw [hget2] at hp
              have hlen2 := it_x_len hx d c2 a3 a4 (by omega)
              rw [a5, nI_clamp (by omega)] at hlen2
              rw [List.length_append, hkb, edp, hlen2] at hr2'
              rw [ecc]
              unfold wX_itemOf_202
              refine pk_le z0 r2 (fun hle => ?_) (fun hgt => ?_)
              · rw [pk_sub hle]
                refine nm_e (nm_r (nI_1 x5) ?_)
                refine ih (x5 + 1) c2 (r2 - z0) (by omega) a3 a4 (by rw [a5, nI_clamp (by omega)]; omega) (fun k' y' hg => hp k' y' ?_)
                rw [List.getElem?_append_right (by rw [hkb]; omega), hkb, edp, ← hz0]
                exact hg
              · have hk5 : k = 5 := by omega
                obtain ⟨m, m1, m2, m3, m4⟩ := hkbk i hi hk5
                have hr0 : r2 = 0 := by omega
                subst hr0
                have h8 := vv_pc_8' (m := m)
                obtain ⟨b1, b2, b3⟩ := ky_t m m1 i (by omega) m4
                rw [es, m2]
                refine ⟨his, xm_keyAt m1 b1 b2 b3 ?_⟩
                unfold wpX_packed
                refine hp 7 (nI (ky_k m i 8)) ?_
                rw [m3]
                rfl
          refine pk_eq k 5 (fun w => hk118 1 (by omega)) (fun w => hk118 0 (by omega))
