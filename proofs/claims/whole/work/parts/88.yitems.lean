/-! ===== items: Y writes the same list ===== -/
/-- what waits on Y's stack: (0, slot, depth) a value, (1, kind, 0) a bracket, (2, key, 0) a key -/
def ie_i (K N Z P : Nat → Int32) (e : Nat × Nat × Nat) : List (Int32 × Int32) := if e.1 = 0 then it_x K N Z P e.2.2 e.2.1 else if e.1 = 1 then [(nI e.2.1, 0)] else [(7, nI e.2.1)]
def ie_w (R : Int32 → Int64 → Prop) (D : Nat → Int32) (w : Int64) (e : Nat × Nat × Nat) : Prop :=
  e.2.2 ≤ 4 ∧ (e.1 = 0 → R (nI e.2.1) w ∧ e.2.1 < 653 ∧ (D e.2.1).toNatClampNeg ≤ e.2.2) ∧ (e.1 = 1 → w = yy_t 10 (nI e.2.1)) ∧ (2 ≤ e.1 → w = yy_t 11 (nI e.2.1))
def is_ok (R : Int32 → Int64 → Prop) (D : Nat → Int32) (lf : Nat → Int64) : List (Nat × Nat × Nat) → Prop
  | [] => True
  | e :: L => ie_w R D (lf L.length) e ∧ L.length ≤ 21 * (4 - e.2.2) ∧ is_ok R D lf L
def is_l (K N Z P : Nat → Int32) : List (Nat × Nat × Nat) → List (Int32 × Int32)
  | [] => []
  | e :: L => ie_i K N Z P e ++ is_l K N Z P L
theorem is_st {R : Int32 → Int64 → Prop} {D : Nat → Int32} {lf lf' : Nat → Int64} : ∀ (L : List (Nat × Nat × Nat)), (∀ i, i < L.length → lf' i = lf i) → is_ok R D lf L → is_ok R D lf' L
  | [], _, _ => trivial
  | e :: L, h, ho => by
    obtain ⟨h1, h2, h3⟩ := ho
    refine ⟨?_, h2, is_st L (fun i hi => h i (by rw [List.length_cons]; omega)) h3⟩
    rw [h L.length (by rw [List.length_cons]; omega)]
    exact h1
theorem is_l_app (K N Z P : Nat → Int32) : ∀ (L M : List (Nat × Nat × Nat)), is_l K N Z P (L ++ M) = is_l K N Z P L ++ is_l K N Z P M
  | [], M => rfl
  | e :: L, M => by
    rw [List.cons_append, is_l, is_l, is_l_app K N Z P L M, List.append_assoc]
def ch_l (ent : Nat → List (Nat × Nat × Nat)) : Nat → Nat → List (Nat × Nat × Nat)
  | _, 0 => []
  | i, n + 1 => ent i ++ ch_l ent (i + 1) n
def it_f (kb g : Nat → List (Int32 × Int32)) : Nat → Nat → List (Int32 × Int32)
  | _, 0 => []
  | i, n + 1 => (kb i ++ g i) ++ it_f kb g (i + 1) n
theorem it_kf (kb g : Nat → List (Int32 × Int32)) : ∀ m n, it_k kb g n ++ it_f kb g n m = it_k kb g (n + m)
  | 0, n => by rw [it_f, List.append_nil]; rfl
  | m + 1, n => by
    rw [it_f, ← List.append_assoc, show it_k kb g n ++ (kb n ++ g n) = it_k kb g (n + 1) from rfl, it_kf kb g m (n + 1)]
    congr 1
    omega
theorem ch_len {ent : Nat → List (Nat × Nat × Nat)} {b : Nat} (h : ∀ i, (ent i).length ≤ b) : ∀ n i, (ch_l ent i n).length ≤ b * n
  | 0, _ => by simp [ch_l]
  | n + 1, i => by
    have h1 := h i
    have h2 := ch_len h n (i + 1)
    rw [ch_l, List.length_append, Nat.mul_succ]
    omega
theorem ch_is {K N Z P : Nat → Int32} {ent : Nat → List (Nat × Nat × Nat)} {kb g : Nat → List (Int32 × Int32)} (h : ∀ i, is_l K N Z P (ent i) = kb i ++ g i) : ∀ n i, is_l K N Z P (ch_l ent i n) = it_f kb g i n
  | 0, _ => rfl
  | n + 1, i => by rw [ch_l, is_l_app, h i, ch_is h n (i + 1), it_f]
theorem yi_15 {yma ypo yhe yvm : Int32} {yin : Int64} {yfi yde yap yas yto : Int32} {yan : Int64} {yco yti yna yac yen yic : Int32} {o l kS d : Nat → Int32} {pl ys : Nat → Int64} {yk yn yp yf yo : Nat → Int32} {yi : Nat → Int64} {yw ya y1 y2 : Nat → Int32} {yK : Nat → Int64} {yW : Nat → Int32} {yL : Nat → Int64} {yq nm : Nat → Int32} {nv : Nat → Int64} {no : Nat → Int32} {yA lf rt : Nat → Int64} {iK iN : Nat → Int32} {R : Int32 → Int64 → Prop} {D : Nat → Int32} {post : Int32 → SY → Prop} {κ j z m oa dd lo : Nat} {ch : Nat → Nat} {M : List (Nat × Nat × Nat)} (hκ : κ = 4 ∨ κ = 5) (h5 : κ = 5 → kS j = nI m ∧ m < 256 ∧ z = vv_pc m 8) (hj : j < 760) (eo : o j = nI oa) (el : l j = nI z) (hz : z ≤ 10) (hoz : oa + z ≤ 8200)
    (hM : M.length = lo + 1) (hlo : lo + 20 ≤ 21 * (4 - dd)) (hdd : dd ≤ 3) (hR : ∀ i, i < z → R (nI (ch i)) (pl (oa + i)) ∧ ch i < 653 ∧ (D (ch i)).toNatClampNeg ≤ dd)
    (hp : ∀ lf' : Nat → Int64, is_ok R D lf' (ch_l (fun i => if κ = 4 then [(0, ch i, dd)] else [(2, kc_e κ m i, 0), (0, ch i, dd)]) 0 z ++ M) → post (nI (ch_l (fun i => if κ = 4 then [(0, ch i, dd)] else [(2, kc_e κ m i, 0), (0, ch i, dd)]) 0 z ++ M).length) (yma, ypo, yhe, yvm, yin, yfi, yde, yap, yas, yto, yan, yco, yti, yna, yac, yen, yic, o, l, kS, d, pl, ys, yk, yn, yp, yf, yo, yi, yw, ya, y1, y2, yK, yW, yL, yq, nm, nv, no, yA, lf', rt, iK, iN)) :
    ∀ k, k ≤ 10 → ∀ lf : Nat → Int64, is_ok R D lf (ch_l (fun i => if κ = 4 then [(0, ch i, dd)] else [(2, kc_e κ m i, 0), (0, ch i, dd)]) (kc_c κ m z k) (z - kc_c κ m z k) ++ M) →
      wY_writeParts_15 post (yy_t κ (nI j)) (nI κ) yma ypo yhe yvm yin yfi yde yap yas yto yan yco yti yna yac yen yic (k + 1) (nI (ch_l (fun i => if κ = 4 then [(0, ch i, dd)] else [(2, kc_e κ m i, 0), (0, ch i, dd)]) (kc_c κ m z k) (z - kc_c κ m z k) ++ M).length) (nI (kc_c κ m z k)) (nI k + (-1)) o l kS d pl ys yk yn yp yf yo yi yw ya y1 y2 yK yW yL yq nm nv no yA lf rt iK iN := by
  have h5' : κ = 5 → m < 256 ∧ z = vv_pc m 8 := fun e => ⟨(h5 e).2.1, (h5 e).2.2⟩
  obtain ⟨kc0, kc10⟩ := kc_10 hκ h5' hz
  have hent : ∀ i, ((fun i => if κ = 4 then [(0, ch i, dd)] else [(2, kc_e κ m i, 0), (0, ch i, dd)]) i : List (Nat × Nat × Nat)).length ≤ 2 := fun i => by
    dsimp only
    split <;> simp
  have hcz : ∀ k, k ≤ 10 → kc_c κ m z k ≤ z := fun k hk => by
    unfold kc_c
    split
    · omega
    · rename_i h4
      obtain ⟨_, w⟩ := h5' (by omega)
      by_cases h8 : k ≤ 8
      · have := vv_pc_u (m := m) h8
        omega
      · have := vv_pc_10 m (h5' (by omega)).1
        have := vv_pc_u (m := m) hk
        omega
  intro k
  induction k with
  | zero =>
    intro _ lf ho
    rw [kc0, Nat.sub_zero] at ho ⊢
    unfold wY_writeParts_15
    exact br_t (by decide) (hp lf ho)
  | succ k ih =>
    intro hk lf ho
    have hxk : nI (k + 1) + (-1) = nI k := pk_m1 k
    have hlen := ch_len hent (z - kc_c κ m z (k + 1)) (kc_c κ m z (k + 1))
    have h300 : (ch_l (fun i => if κ = 4 then [(0, ch i, dd)] else [(2, kc_e κ m i, 0), (0, ch i, dd)]) (kc_c κ m z (k + 1)) (z - kc_c κ m z (k + 1)) ++ M).length = (ch_l (fun i => if κ = 4 then [(0, ch i, dd)] else [(2, kc_e κ m i, 0), (0, ch i, dd)]) (kc_c κ m z (k + 1)) (z - kc_c κ m z (k + 1))).length + (lo + 1) := by rw [List.length_append, hM]
    have hck := hcz (k + 1) hk
    rw [hxk]
    unfold wY_writeParts_15
    refine br_f (nI_pos (by omega)) ?_
    rcases kc_on (κ := κ) (m := m) (z := z) (k := k) hκ h5' (by omega) with ⟨a1, a2, a3, a4⟩ | ⟨a1, a2, a3⟩
    · -- a part is there
      have k64 : wY_writeParts_64 post (wY_writeParts_15 post (yy_t κ (nI j)) (nI κ) yma ypo yhe yvm yin yfi yde yap yas yto yan yco yti yna yac yen yic (k + 1)) (yy_t κ (nI j)) (nI κ) (nI (ch_l (fun i => if κ = 4 then [(0, ch i, dd)] else [(2, kc_e κ m i, 0), (0, ch i, dd)]) (kc_c κ m z (k + 1)) (z - kc_c κ m z (k + 1)) ++ M).length) (nI (kc_c κ m z (k + 1))) (nI k) 1 yma ypo yhe yvm yin yfi yde yap yas yto yan yco yti yna yac yen yic o l kS d pl ys yk yn yp yf yo yi yw ya y1 y2 yK yW yL yq nm nv no yA lf rt iK iN := by
        unfold wY_writeParts_64
        have hi : kc_c κ m z k < z := by omega
        obtain ⟨r1, r2, r3⟩ := hR _ hi
        have hstep : ch_l (fun i => if κ = 4 then [(0, ch i, dd)] else [(2, kc_e κ m i, 0), (0, ch i, dd)]) (kc_c κ m z k) (z - kc_c κ m z k) = (if κ = 4 then [(0, ch (kc_c κ m z k), dd)] else [(2, k, 0), (0, ch (kc_c κ m z k), dd)]) ++ ch_l (fun i => if κ = 4 then [(0, ch i, dd)] else [(2, kc_e κ m i, 0), (0, ch i, dd)]) (kc_c κ m z (k + 1)) (z - kc_c κ m z (k + 1)) := by
          rw [show z - kc_c κ m z k = (z - kc_c κ m z (k + 1)) + 1 by omega, ch_l, a3, a4]
        have ih' := ih (by omega)
        rw [hstep] at ih'
        generalize hG : ch_l (fun i => if κ = 4 then [(0, ch i, dd)] else [(2, kc_e κ m i, 0), (0, ch i, dd)]) (kc_c κ m z (k + 1)) (z - kc_c κ m z (k + 1)) = G at *
        have hGl : G.length ≤ 2 * (z - (kc_c κ m z k + 1)) := by rw [a3] at hlen; exact hlen
        have hMG : (G ++ M).length = G.length + (lo + 1) := h300
        refine br_f (by decide) ?_
        rw [a3]
        refine nm_r (pk_m1 _) (ym_place (a := oa) (i := kc_c κ m z k) hj eo (by omega) ⟨vp_in_nI (by omega) (by omega), ?_⟩)
        rw [nI_clamp (show (G ++ M).length < 2 ^ 31 by omega)]
        refine nm_e (nm_r (nI_1 _) ?_)
        have ok1 : is_ok R D (vp_updL lf (G ++ M).length (pl (oa + kc_c κ m z k))) ((0, ch (kc_c κ m z k), dd) :: (G ++ M)) := by
          refine ⟨⟨by show dd ≤ 4; omega, fun _ => ?_, fun w => absurd w (by simp), fun w => absurd w (by simp)⟩, ?_, is_st _ (fun i hi => pk_uLn (by omega)) ho⟩
          · rw [pk_uLs]
            exact ⟨r1, r2, r3⟩
          · show (G ++ M).length ≤ 21 * (4 - dd)
            omega
        rcases hκ with e4 | e5
        · subst e4
          refine br_f (by decide) (nm_e ?_)
          have := ih' _ ok1
          exact this
        · subst e5
          refine br_t rfl (ym_thing (κ := 11) (by omega) ⟨vp_in_nI (by omega) (by omega), ?_⟩)
          rw [nI_clamp (show (G ++ M).length + 1 < 2 ^ 31 by omega)]
          refine nm_e (nm_r (nI_1 _) (nm_e ?_))
          have ok2 : is_ok R D (vp_updL (vp_updL lf (G ++ M).length (pl (oa + kc_c 5 m z k))) ((G ++ M).length + 1) (yy_t 11 (nI k))) ((2, k, 0) :: (0, ch (kc_c 5 m z k), dd) :: (G ++ M)) := by
            refine ⟨⟨by show 0 ≤ 4; omega, fun w => absurd w (by simp), fun w => absurd w (by simp), fun _ => ?_⟩, ?_, is_st _ (fun i hi => pk_uLn (by rw [List.length_cons] at hi; omega)) ok1⟩
            · rw [List.length_cons, pk_uLs]
            · show ((0, ch (kc_c 5 m z k), dd) :: (G ++ M)).length ≤ 21 * (4 - 0)
              rw [List.length_cons]
              omega
          have := ih' _ ok2
          exact this
      rcases hκ with e4 | e5
      · subst e4
        refine br_t rfl (ym_lengthOf hj ?_)
        rw [el]
        exact pk_le z k (fun h => absurd (a1 rfl) (by omega)) (fun _ => k64)
      · subst e5
        refine br_f (by decide) ?_
        obtain ⟨m1, m2, _⟩ := h5 rfl
        rw [yy_xt, nI_clamp (show j < 2 ^ 31 by omega), m1, kb_bit (by omega) (by omega)]
        exact ⟨vp_in_nI hj (by omega), pk_eq (m / 2 ^ k % 2) 1 (fun _ => k64) (fun h => absurd (a2 rfl) h)⟩
    · -- none is there
      rw [a3] at ho ⊢
      have k64 : wY_writeParts_64 post (wY_writeParts_15 post (yy_t κ (nI j)) (nI κ) yma ypo yhe yvm yin yfi yde yap yas yto yan yco yti yna yac yen yic (k + 1)) (yy_t κ (nI j)) (nI κ) (nI (ch_l (fun i => if κ = 4 then [(0, ch i, dd)] else [(2, kc_e κ m i, 0), (0, ch i, dd)]) (kc_c κ m z k) (z - kc_c κ m z k) ++ M).length) (nI (kc_c κ m z k)) (nI k) 0 yma ypo yhe yvm yin yfi yde yap yas yto yan yco yti yna yac yen yic o l kS d pl ys yk yn yp yf yo yi yw ya y1 y2 yK yW yL yq nm nv no yA lf rt iK iN := by
        unfold wY_writeParts_64
        exact br_t rfl (nm_e (ih (by omega) lf ho))
      rcases hκ with e4 | e5
      · subst e4
        refine br_t rfl (ym_lengthOf hj ?_)
        rw [el]
        exact pk_le z k (fun _ => k64) (fun h => absurd (a1 rfl) (by omega))
      · subst e5
        refine br_f (by decide) ?_
        obtain ⟨m1, m2, _⟩ := h5 rfl
        rw [yy_xt, nI_clamp (show j < 2 ^ 31 by omega), m1, kb_bit (by omega) (by omega)]
        exact ⟨vp_in_nI hj (by omega), pk_eq (m / 2 ^ k % 2) 1 (fun h => absurd (a2 rfl) (by omega)) (fun _ => k64)⟩
theorem nI_npos {a : Nat} (h0 : 0 < a) (h : a < 2 ^ 31) : ¬ nI a ≤ 0 := nI_ge (a := 0) h0 h
theorem ym_item {yma ypo yhe yvm : Int32} {yin : Int64} {yfi yde yap yas yto : Int32} {yan : Int64} {yco yti yna yac yen yic : Int32} {o l kS d : Nat → Int32} {pl ys : Nat → Int64} {yk yn yp yf yo : Nat → Int32} {yi : Nat → Int64} {yw ya y1 y2 : Nat → Int32} {yK : Nat → Int64} {yW : Nat → Int32} {yL : Nat → Int64} {yq nm : Nat → Int32} {nv : Nat → Int64} {no : Nat → Int32} {yA lf rt : Nat → Int64} {iK iN : Nat → Int32} {post : SY → Prop} {ic : Nat} {k y : Int32} (ei : yic = nI ic) (hi : ic < 62) (hp : post (yma, ypo, yhe, yvm, yin, yfi, yde, yap, yas, yto, yan, yco, yti, yna, yac, yen, (nI (ic + 1)), o, l, kS, d, pl, ys, yk, yn, yp, yf, yo, yi, yw, ya, y1, y2, yK, yW, yL, yq, nm, nv, no, yA, lf, rt, (upd iK ic k), (upd iN ic y))) : wpY_item post (yma, ypo, yhe, yvm, yin, yfi, yde, yap, yas, yto, yan, yco, yti, yna, yac, yen, yic, o, l, kS, d, pl, ys, yk, yn, yp, yf, yo, yi, yw, ya, y1, y2, yK, yW, yL, yq, nm, nv, no, yA, lf, rt, iK, iN) k y := by
  subst ei
  unfold wpY_item
  dsimp only
  rw [nI_clamp (show ic < 2 ^ 31 by omega)]
  exact ⟨vp_in_nI hi (by omega), nm_e ⟨vp_in_nI hi (by omega), nm_e (nm_r (nI_1 ic) hp)⟩⟩
theorem ls_drop {α : Type} {L r : List α} {i : Nat} {x : α} (h : L.drop i = x :: r) : L[i]? = some x ∧ L.drop (i + 1) = r := by
  constructor
  · have := List.getElem?_drop (xs := L) (i := i) (j := 0)
    rw [h, Nat.add_zero] at this
    exact this.symm
  · rw [← List.drop_drop, h]
    rfl
theorem yi_14 {yma ypo yhe yvm : Int32} {yin : Int64} {yfi yde yap yas yto : Int32} {yan : Int64} {yco yti yna yac yen yic : Int32} {o l kS d : Nat → Int32} {pl ys : Nat → Int64} {yk yn yp yf yo : Nat → Int32} {yi : Nat → Int64} {yw ya y1 y2 : Nat → Int32} {yK : Nat → Int64} {yW : Nat → Int32} {yL : Nat → Int64} {yq nm : Nat → Int32} {nv : Nat → Int64} {no : Nat → Int32} {yA lf rt : Nat → Int64} {iK iN : Nat → Int32} {V : Nat → Prop} {K N Z D Im W P : Nat → Int32} {mk pd : Nat} {post : SY → Prop} {Λ : List (Int32 × Int32)} (hx : vv_ox V K N Z D Im W P) (hy : vv_cy mk pd o l pl)
    (hp : ∀ (ic : Nat) (lf : Nat → Int64) (iK iN : Nat → Int32), (ic = Λ.length ∨ (ic = 61 ∧ 61 ≤ Λ.length)) → ic ≤ 61 → (∀ i, i < ic → Λ[i]? = some (iK i, iN i)) → post (yma, ypo, yhe, yvm, yin, yfi, yde, yap, yas, yto, yan, yco, yti, yna, yac, yen, (nI ic), o, l, kS, d, pl, ys, yk, yn, yp, yf, yo, yi, yw, ya, y1, y2, yK, yW, yL, yq, nm, nv, no, yA, lf, rt, iK, iN)) :
    ∀ f ic, ic + f = 61 → ∀ (lf : Nat → Int64) (L : List (Nat × Nat × Nat)) (iK iN : Nat → Int32), is_ok (vv_R V K N Z D P mk o l kS d pl) D lf L → Λ.drop ic = is_l K N Z P L → (∀ i, i < ic → Λ[i]? = some (iK i, iN i)) → wY_write_14 post (f + 1) (nI L.length) yma ypo yhe yvm yin yfi yde yap yas yto yan yco yti yna yac yen (nI ic) o l kS d pl ys yk yn yp yf yo yi yw ya y1 y2 yK yW yL yq nm nv no yA lf rt iK iN := by
  intro f
  induction f with
  | zero =>
    intro ic hic lf L iK iN ho hd hdone
    have h61 : ic = 61 := by omega
    unfold wY_write_14
    refine br_c (fun h0 => ?_) (fun _ => br_t (by rw [h61]; decide) ?_)
    · have hL : L = [] := by
        cases L with
        | nil => rfl
        | cons e L =>
          have : L.length ≤ 84 := by
            have := ho.2.1
            omega
          exact absurd h0 (nI_npos (by rw [List.length_cons]; omega) (by rw [List.length_cons]; omega))
      subst hL
      rw [is_l] at hd
      refine hp ic lf iK iN (Or.inl ?_) (by omega) hdone
      have h1 : Λ.length ≤ ic := List.drop_eq_nil_iff.mp hd
      have h2 : ic - 1 < Λ.length := by
        have := hdone (ic - 1) (by omega)
        exact (List.getElem?_eq_some_iff.mp this).1
      omega
    · refine hp ic lf iK iN (Or.inr ⟨h61, ?_⟩) (by omega) hdone
      have := hdone (ic - 1) (by omega)
      have := (List.getElem?_eq_some_iff.mp this).1
      omega
  | succ f ih =>
    intro ic hic lf L iK iN ho hd hdone
    have hfin : ∀ (k y : Int32) (rest : List (Int32 × Int32)), Λ.drop ic = (k, y) :: rest → Λ.drop (ic + 1) = rest ∧ ∀ i, i < ic + 1 → Λ[i]? = some (upd iK ic k i, upd iN ic y i) := fun k y rest hr => by
      obtain ⟨g1, g2⟩ := ls_drop hr
      refine ⟨g2, fun i hi => ?_⟩
      by_cases e : i = ic
      · subst e
        rw [pk_us, pk_us]
        exact g1
      · rw [pk_un e, pk_un e]
        exact hdone i (by omega)
    cases L with
    | nil =>
      unfold wY_write_14
      refine br_t (by decide) ?_
      rw [is_l] at hd
      refine hp ic lf iK iN (Or.inl ?_) (by omega) hdone
      have h1 : Λ.length ≤ ic := List.drop_eq_nil_iff.mp hd
      by_cases h0 : ic = 0
      · omega
      · have := hdone (ic - 1) (by omega)
        have := (List.getElem?_eq_some_iff.mp this).1
        omega
    | cons e L =>
      obtain ⟨hw, hidx, ho'⟩ := ho
      have h84 : L.length ≤ 84 := by omega
      rw [List.length_cons]
      unfold wY_write_14
      refine br_f (nI_npos (by omega) (by omega)) (br_f (nI_ge (b := 61) (by omega) (by omega)) (nm_r (pk_m1 L.length) ⟨vp_in_nI (by omega) (by omega), ?_⟩))
      rw [nI_clamp (show L.length < 2 ^ 31 by omega)]
      refine nm_e ?_
      obtain ⟨w0, w1, w2, w3⟩ := hw
      rw [is_l] at hd
      by_cases e0 : e.1 = 0
      · obtain ⟨r1, r2, r3⟩ := w1 e0
        have hi : ie_i K N Z P e = it_x K N Z P e.2.2 e.2.1 := by unfold ie_i; rw [if_pos e0]
        rw [hi] at hd
        obtain ⟨n, κ, x, q1, q2, q3, q4, q5, q6, q7⟩ := vv_R_is hx hy r1
        have hn : n = e.2.1 := ((nI_eq (by omega) (by omega)).mp q1).symm
        subst hn
        rw [q5]
        refine ym_sort (by omega) ?_
        rcases q7 with ⟨c1, c2, c3, c4⟩ | ⟨c1, j, oa, b, j1, j2, j3, j4, j5, j6, j7, j8, j9, j10⟩
        · -- a plain value
          have hit : it_x K N Z P e.2.2 e.2.1 = [(nI κ, if κ = 3 then x else 0)] := by
            have hN : N e.2.1 = if κ = 3 then x else 0 := by
              split
              · exact c2
              · exact (rl_plain hx q3 (by omega) q6).1 (by omega)
            rw [← hN, ← q6]
            cases hde : e.2.2 with
            | zero => rw [it_x]
            | succ d' => rw [it_x, if_neg (fun z => by have := (nI_eq (by omega) (by omega)).mp (q6.symm.trans z); omega), if_neg (fun z => by have := (nI_eq (by omega) (by omega)).mp (q6.symm.trans z); omega)]
          rw [hit] at hd
          obtain ⟨g1, g2⟩ := hfin _ _ _ hd
          refine br_f (nI_ge (b := 4) c1 (by omega)) ?_
          have k68 : ∀ y : Int32, y = (if κ = 3 then x else 0) → wY_write_68 post (wY_write_14 post (f + 1)) (nI L.length) y (nI κ) yma ypo yhe yvm yin yfi yde yap yas yto yan yco yti yna yac yen (nI ic) o l kS d pl ys yk yn yp yf yo yi yw ya y1 y2 yK yW yL yq nm nv no yA lf rt iK iN := fun y hy' => by
            subst hy'
            unfold wY_write_68
            refine ym_item rfl (by omega) ?_
            exact ih (ic + 1) (by omega) lf L _ _ ho' g1 g2
          refine pk_eq κ 3 (fun h3 => k68 _ ?_) (fun h3 => k68 _ ?_)
          · rw [if_pos h3, yy_xt]
          · rw [if_neg h3]
        · -- a nested one
          have hm7 := hy.1
          have hp8 := hy.2.1
          obtain ⟨d', hd'⟩ : ∃ d', e.2.2 = d' + 1 := by
            obtain ⟨_, hl | hl⟩ := hx _ q3
            · obtain ⟨k, k1, k2, _⟩ := hl
              have := (nI_eq (by omega) (by omega)).mp (k2.symm.trans q6)
              omega
            · obtain ⟨k, z, dz, _, _, _, _, hdz, h4, _⟩ := hl
              rw [hdz, nI_clamp (by omega)] at r3
              exact ⟨e.2.2 - 1, by omega⟩
          have h45 : κ = 4 ∨ κ = 5 := by omega
          obtain ⟨m, hm⟩ := vx_m hx q3 q6 q4
          have hm5 : κ = 5 → kS j = nI m ∧ m < 256 ∧ b = vv_pc m 8 := fun e5 => by
            obtain ⟨m1, m2, m3⟩ := hm e5
            have h10 := vv_pc_8 (m := m)
            exact ⟨j7.symm.trans m2, m1, (nI_eq (by omega) (by omega)).mp (j8.symm.trans m3)⟩
          have hchd : ∀ i, i < b → vv_R V K N Z D P mk o l kS d pl (nI (dp_ch P e.2.1 i)) (pl (oa + i)) ∧ dp_ch P e.2.1 i < 653 ∧ (D (dp_ch P e.2.1 i)).toNatClampNeg ≤ d' := fun i hi => by
            obtain ⟨_, hl | hl⟩ := hx _ q3
            · obtain ⟨k, k1, k2, _⟩ := hl
              have := (nI_eq (by omega) (by omega)).mp (k2.symm.trans q6)
              omega
            · obtain ⟨k, z, dz, _, _, hz, hz10, hdz, h4, hc, _⟩ := hl
              have hzb : z = b := (nI_eq (by omega) (by omega)).mp (hz.symm.trans j8)
              obtain ⟨c, f1, f2, f3, _, e', f4, f5⟩ := hc i (by omega)
              rw [hdz, nI_clamp (by omega)] at r3
              have hj10 := j10 i hi
              rw [f1] at hj10
              rw [dp_ch, f1, nI_clamp (by omega)]
              exact ⟨hj10, f2, by rw [f5, nI_clamp (by omega)]; omega⟩
          subst j2
          -- the list
          obtain ⟨ko, kc, hkk, hlist⟩ : ∃ ko kc : Nat, ((κ = 4 → ko = 4 ∧ kc = 5) ∧ (κ = 5 → ko = 6 ∧ kc = 8)) ∧ it_x K N Z P e.2.2 e.2.1 = (nI ko, 0) :: (it_k (fun i => if κ = 4 then [] else [(7, nI (kc_e κ m i))]) (fun i => it_x K N Z P d' (dp_ch P e.2.1 i)) b ++ [(nI kc, 0)]) := by
            rw [hd']
            rcases h45 with w | w <;> subst w
            · refine ⟨4, 5, ⟨fun _ => ⟨rfl, rfl⟩, fun w => absurd w (by omega)⟩, ?_⟩
              rw [it_x, if_pos q6, j8, nI_clamp (by omega)]
              rfl
            · refine ⟨6, 8, ⟨fun w => absurd w (by omega), fun _ => ⟨rfl, rfl⟩⟩, ?_⟩
              rw [it_x, if_neg (fun z => absurd ((nI_eq (by omega) (by omega)).mp (q6.symm.trans z)) (by omega)), if_pos q6, j8, nI_clamp (by omega), (hm rfl).2.1, nI_clamp (by have := (hm rfl).1; omega)]
              rfl
          rw [hlist, List.cons_append] at hd
          obtain ⟨g1, g2⟩ := hfin _ _ _ hd
          refine br_t (nI_le (a := 4) c1 (by omega)) (br_t (nI_le (b := 9) (by omega) (by omega)) ?_)
          have k130 : wY_write_130 post (wY_write_14 post (f + 1)) (nI L.length) (yy_t κ (nI j)) (nI κ) (nI ko) yma ypo yhe yvm yin yfi yde yap yas yto yan yco yti yna yac yen (nI ic) o l kS d pl ys yk yn yp yf yo yi yw ya y1 y2 yK yW yL yq nm nv no yA lf rt iK iN := by
            unfold wY_write_130
            refine ym_item rfl (by omega) ?_
            dsimp only
            have k154 : wY_write_154 post (wY_write_14 post (f + 1)) (nI L.length) (yy_t κ (nI j)) (nI κ) (nI kc) 10 (nI L.length) yma ypo yhe yvm yin yfi yde yap yas yto yan yco yti yna yac yen (nI (ic + 1)) o l kS d pl ys yk yn yp yf yo yi yw ya y1 y2 yK yW yL yq nm nv no yA lf rt (upd iK ic (nI ko)) (upd iN ic 0) := by
              unfold wY_write_154
              refine ym_thing (κ := 10) (by omega) ⟨vp_in_nI (by omega) (by omega), ?_⟩
              rw [nI_clamp (show L.length < 2 ^ 31 by omega)]
              refine nm_e (nm_r (nI_1 L.length) ?_)
              unfold wpY_writeParts
              dsimp only
              refine ym_lengthOf (by omega) ?_
              rw [j4]
              have okM : is_ok (vv_R V K N Z D P mk o l kS d pl) D (vp_updL lf L.length (yy_t 10 (nI kc))) ((1, kc, 0) :: L) := by
                refine ⟨⟨by show 0 ≤ 4; omega, fun w => absurd w (by simp), fun _ => ?_, fun w => absurd w (by simp)⟩, ?_, is_st _ (fun i hi => pk_uLn (by omega)) ho'⟩
                · rw [pk_uLs]
                · show L.length ≤ 21 * (4 - 0)
                  omega
              obtain ⟨t0, t1⟩ := kc_10 (κ := κ) (m := m) (z := b) h45 (fun e5 => ⟨(hm5 e5).2.1, (hm5 e5).2.2⟩) j5
              have h15 := yi_15 (R := vv_R V K N Z D P mk o l kS d pl) (D := D) (dd := d') (lo := L.length) (ch := dp_ch P e.2.1) (M := (1, kc, 0) :: L) (κ := κ) (j := j) (z := b) (m := m) (oa := oa) (lf := lf) (yic := nI (ic + 1)) (iK := upd iK ic (nI ko)) (iN := upd iN ic 0) (post := fun r u => match u with | (yma', ypo', yhe', yvm', yin', yfi', yde', yap', yas', yto', yan', yco', yti', yna', yac', yen', yic', o', l', kS', d', pl', ys', yk', yn', yp', yf', yo', yi', yw', ya', y1', y2', yK', yW', yL', yq', nm', nv', no', yA', lf', rt', iK', iN') => wY_write_14 post (f + 1) r yma' ypo' yhe' yvm' yin' yfi' yde' yap' yas' yto' yan' yco' yti' yna' yac' yen' yic' o' l' kS' d' pl' ys' yk' yn' yp' yf' yo' yi' yw' ya' y1' y2' yK' yW' yL' yq' nm' nv' no' yA' lf' rt' iK' iN') h45 hm5 (by omega) j3 j4 j5 (by omega) (List.length_cons ..) (by rw [hd'] at hidx w0; omega) (by omega) hchd (fun lf' hok => by
                refine ih (ic + 1) (by omega) lf' _ _ _ hok ?_ g2
                rw [g1, is_l_app, ch_is (K := K) (N := N) (Z := Z) (P := P) (kb := fun i => if κ = 4 then [] else [(7, nI (kc_e κ m i))]) (g := fun i => it_x K N Z P d' (dp_ch P e.2.1 i)) (fun i => by
                  by_cases h4 : κ = 4
                  · rw [if_pos h4, if_pos h4]
                    simp [is_l, ie_i]
                  · rw [if_neg h4, if_neg h4]
                    simp [is_l, ie_i])]
                have hkf := it_kf (fun i => if κ = 4 then [] else [(7, nI (kc_e κ m i))]) (fun i => it_x K N Z P d' (dp_ch P e.2.1 i)) b 0
                rw [it_k, List.nil_append, Nat.zero_add] at hkf
                rw [hkf, List.append_assoc]
                simp [is_l, ie_i]) 10 (by omega) (vp_updL lf L.length (yy_t 10 (nI kc))) (by
                rw [t1, Nat.sub_self, ch_l, List.nil_append]
                exact okM)
              rw [t1, Nat.sub_self, ch_l, List.nil_append, List.length_cons] at h15
              exact ⟨10 + 1, h15⟩
            refine pk_eq κ 4 (fun h4 => ?_) (fun h4 => ?_)
            · rw [(hkk.1 h4).2] at k154
              exact k154
            · rw [(hkk.2 (by omega)).2] at k154
              exact k154
          refine pk_eq κ 4 (fun h4 => ?_) (fun h4 => ?_)
          · rw [(hkk.1 h4).1] at k130
            exact k130
          · rw [(hkk.2 (by omega)).1] at k130
            exact k130
      · by_cases e1 : e.1 = 1
        · have hi : ie_i K N Z P e = [(nI e.2.1, 0)] := by unfold ie_i; rw [if_neg e0, if_pos e1]
          rw [hi] at hd
          obtain ⟨g1, g2⟩ := hfin _ _ _ hd
          rw [w2 e1]
          refine ym_sort (κ := 10) (by omega) (br_t (by decide) (br_f (by decide) (br_t rfl ?_)))
          rw [yy_xt]
          unfold wY_write_97
          refine br_t rfl ?_
          unfold wY_write_111
          refine ym_item rfl (by omega) ?_
          exact ih (ic + 1) (by omega) lf L _ _ ho' g1 g2
        · have hi : ie_i K N Z P e = [(7, nI e.2.1)] := by unfold ie_i; rw [if_neg e0, if_neg e1]
          rw [hi] at hd
          obtain ⟨g1, g2⟩ := hfin _ _ _ hd
          rw [w3 (by omega)]
          refine ym_sort (κ := 11) (by omega) (br_t (by decide) (br_f (by decide) (br_f (by decide) ?_)))
          unfold wY_write_97
          rw [yy_xt]
          refine br_f (by decide) ?_
          unfold wY_write_111
          refine ym_item rfl (by omega) ?_
          exact ih (ic + 1) (by omega) lf L _ _ ho' g1 g2
