/-! ===== value ===== -/
section
variable {V V' : Nat → Prop} {K N Z D Im W P K' N' Z' D' Im' W' P' : Nat → Int32} {o l kS d : Nat → Int32} {pl : Nat → Int64} {mk pd : Nat}
theorem vv_R_ux (hx : vv_ox V K N Z D Im W P) (hy : vv_cy mk pd o l pl) (e : vv_eq V K N Z D Im W P K' N' Z' D' Im' W' P') (hV : ∀ s, V s → V' s) {s : Int32} {w : Int64} (h : vv_R V K N Z D P mk o l kS d pl s w) : vv_R V' K' N' Z' D' P' mk o l kS d pl s w :=
  vv_R_up hx hy (fun s hs => ⟨hV s hs, vv_eq_x e s hs⟩) (Nat.le_refl _) (fun j _ => ⟨rfl, rfl, rfl, rfl, fun _ _ _ _ _ _ _ _ => rfl⟩) h
/-- stores of a plain value into a slot outside the set -/
theorem vv_eq_p {n : Nat} (hV : ∀ s, V s → s ≠ n) (a b : Int32) : vv_eq V K N Z D Im W P (upd K n a) (upd N n b) (upd Z n 0) (upd D n 0) (upd Im n 1) (upd W n 1) P :=
  fun s hs => ⟨pk_un (hV s hs), pk_un (hV s hs), pk_un (hV s hs), pk_un (hV s hs), pk_un (hV s hs), pk_un (hV s hs), fun _ _ => rfl⟩
theorem vv_ox_p (h : vv_ox V K N Z D Im W P) {n : Nat} (hn : n < 653) (hV : ∀ s, V s → s ≠ n) (x : Int32) : vv_ox (fun s => V s ∨ s = n) (upd K n 3) (upd N n x) (upd Z n 0) (upd D n 0) (upd Im n 1) (upd W n 1) P :=
  vv_ox_add h (vv_eq_p hV 3 x) hn (Or.inl ⟨3, by omega, pk_us, fun z => absurd z (by omega), pk_us, pk_us, pk_us, pk_us⟩)
theorem rl_b_up (hb : rl_b V K N) (hV : ∀ s, V s → V' s) (e : ∀ s, V s → K' s = K s ∧ N' s = N s) : rl_b V' K' N' := by
  refine ⟨fun s hs => ?_, fun g hg => ?_⟩
  · obtain ⟨a, b⟩ := hb.1 s hs
    exact ⟨hV s a, (e s a).1.trans b⟩
  · obtain ⟨a, b, c⟩ := hb.2 g hg
    exact ⟨hV _ a, (e _ a).1.trans b, (e _ a).2.trans c⟩
end
theorem xm_value0 {xst xow xin xpa xfi xfr xno xsi xan xkn xen xco xrm xac : Int32} {K N Z D Im W P vS pO pX pI fS fP fI fU fR fO fA fH fG fN aS qL qR qP : Nat → Int32} {post : Int32 → SX → Prop} {h m κ : Nat} {x : Int32} (eh : xst = nI h) (em : xow = nI m) (hh : h < 12) (hm : m < 40) (hκ : κ < 3)
    (hp : post (nI (h + 1)) ((nI (h + 1)), (nI (m + 1)), xin, xpa, xfi, xfr, xno, xsi, xan, xkn, xen, xco, xrm, xac, K, N, Z, D, Im, W, P, (upd vS h (nI κ)), pO, pX, pI, fS, fP, fI, fU, fR, fO, fA, fH, fG, fN, aS, qL, qR, qP)) : wpX_value post (xst, xow, xin, xpa, xfi, xfr, xno, xsi, xan, xkn, xen, xco, xrm, xac, K, N, Z, D, Im, W, P, vS, pO, pX, pI, fS, fP, fI, fU, fR, fO, fA, fH, fG, fN, aS, qL, qR, qP) (nI κ) x := by
  subst eh em
  unfold wpX_value
  dsimp only
  refine br_f (nI_pos (by omega)) (br_t (nI_le (b := 3) (by omega) (by omega)) (br_f (nI_ge (b := 40) hm (by omega)) (br_t (nI_lt (b := 12) hh (by omega)) (br_f ?_ ?_))))
  · exact fun z => absurd ((nI_eq (b := 3) (by omega) (by omega)).mp z) (by omega)
  · unfold wX_value_55
    exact xm_pushOwn rfl rfl hh hp
theorem xm_value3 {xst xow xin xpa xfi xfr xno xsi xan xkn xen xco xrm xac : Int32} {K N Z D Im W P vS pO pX pI fS fP fI fU fR fO fA fH fG fN aS qL qR qP : Nat → Int32} {post : Int32 → SX → Prop} {h m : Nat} {x : Int32} (eh : xst = nI h) (em : xow = nI m) (hh : h < 12) (hm : m < 40)
    (hp : post (nI (h + 1)) ((nI (h + 1)), (nI (m + 1)), xin, xpa, xfi, xfr, xno, xsi, xan, xkn, xen, xco, xrm, xac, (upd K (13 + m) 3), (upd N (13 + m) x), (upd Z (13 + m) 0), (upd D (13 + m) 0), (upd Im (13 + m) 1), (upd W (13 + m) 1), P, (upd vS h (nI (13 + m))), pO, pX, pI, fS, fP, fI, fU, fR, fO, fA, fH, fG, fN, aS, qL, qR, qP)) : wpX_value post (xst, xow, xin, xpa, xfi, xfr, xno, xsi, xan, xkn, xen, xco, xrm, xac, K, N, Z, D, Im, W, P, vS, pO, pX, pI, fS, fP, fI, fU, fR, fO, fA, fH, fG, fN, aS, qL, qR, qP) (nI 3) x := by
  subst eh em
  unfold wpX_value
  dsimp only
  refine br_f (nI_pos (by omega)) (br_t (nI_le (b := 3) (by omega) (by omega)) (br_f (nI_ge (b := 40) hm (by omega)) (br_t (nI_lt (b := 12) hh (by omega)) (br_t rfl (nm_r (xi_13 m) ?_)))))
  refine xm_setPlain (by omega) ?_
  unfold wX_value_55
  exact xm_pushOwn rfl rfl hh hp
theorem ym_value {yma ypo yhe yvm : Int32} {yin : Int64} {yfi yde yap yas yto : Int32} {yan : Int64} {yco yti yna yac yen yic : Int32} {o l kS d : Nat → Int32} {pl ys : Nat → Int64} {yk yn yp yf yo : Nat → Int32} {yi : Nat → Int64} {yw ya y1 y2 : Nat → Int32} {yK : Nat → Int64} {yW : Nat → Int32} {yL : Nat → Int64} {yq nm : Nat → Int32} {nv : Nat → Int64} {no : Nat → Int32} {yA lf rt : Nat → Int64} {iK iN : Nat → Int32} {post : Int32 → SY → Prop} {h m κ : Nat} {x x' : Int32} (eh : yhe = nI h) (em : yvm = nI m) (hh : h < 12) (hm : m < 40) (hκ : κ ≤ 3) (h3 : κ = 3 → x' = x) (h0 : κ < 3 → x' = 0)
    (hp : post (nI (h + 1)) (yma, ypo, (nI (h + 1)), (nI (m + 1)), yin, yfi, yde, yap, yas, yto, yan, yco, yti, yna, yac, yen, yic, o, l, kS, d, pl, (vp_updL ys h (yy_t κ x')), yk, yn, yp, yf, yo, yi, yw, ya, y1, y2, yK, yW, yL, yq, nm, nv, no, yA, lf, rt, iK, iN)) : wpY_value post (yma, ypo, yhe, yvm, yin, yfi, yde, yap, yas, yto, yan, yco, yti, yna, yac, yen, yic, o, l, kS, d, pl, ys, yk, yn, yp, yf, yo, yi, yw, ya, y1, y2, yK, yW, yL, yq, nm, nv, no, yA, lf, rt, iK, iN) (nI κ) x := by
  subst eh em
  have key : wY_value_53 post x' (nI κ) (nI h) yma ypo (nI h) (nI m) yin yfi yde yap yas yto yan yco yti yna yac yen yic o l kS d pl ys yk yn yp yf yo yi yw ya y1 y2 yK yW yL yq nm nv no yA lf rt iK iN := by
    unfold wY_value_53
    refine ym_thing (by omega) ?_
    rw [nI_clamp (show h < 2 ^ 31 by omega), nI_1, nI_1]
    exact ⟨vp_in_nI hh (by omega), nm_e (nm_e (nm_e hp))⟩
  unfold wpY_value
  dsimp only
  refine br_f (nI_pos (by omega)) (br_t (nI_le (b := 3) (by omega) (by omega)) (br_f ?_ (br_f ?_ ?_)))
  · exact fun z => absurd ((nI_eq (b := 40) (by omega) (by omega)).mp z) (by omega)
  · exact fun z => absurd ((nI_eq (b := 12) (by omega) (by omega)).mp z) (by omega)
  · refine pk_eq κ 3 (fun z => ?_) (fun z => ?_)
    · rw [h3 z] at key
      exact key
    · rw [h0 (by omega)] at key
      exact key
theorem i_vc_value {k : Nat} {u : SX} {v : SY} (I : i_Rel k u v) (hk : k + 3 ≤ 1536) (v1 : Int32) (v2 : Int32) : wpX_value (fun r u' => wpY_value (fun r' v' => r' = r ∧ i_Rel (k + 3) u' v') v v1 v2) u v1 v2 := by
  obtain ⟨xst, xow, xin, xpa, xfi, xfr, xno, xsi, xan, xkn, xen, xco, xrm, xac, K, N, Z, D, Im, W, P, vS, pO, pX, pI, fS, fP, fI, fU, fR, fO, fA, fH, fG, fN, aS, qL, qR, qP⟩ := u
  obtain ⟨yma, ypo, yhe, yvm, yin, yfi, yde, yap, yas, yto, yan, yco, yti, yna, yac, yen, yic, o, l, kS, d, pl, ys, yk, yn, yp, yf, yo, yi, yw, ya, y1, y2, yK, yW, yL, yq, nm, nv, no, yA, lf, rt, iK, iN⟩ := v
  have I0 := I
  obtain ⟨V, h, m, mk, pd, np, nf, ⟨rfl, rfl, h3, rfl, rfl, h6, h7, h8, h9, h10, h11, h12, h13, h14, h15, h16⟩, hf, hkn⟩ := I
  by_cases a0 : v1 < 0
  · unfold wpX_value wpY_value
    dsimp only
    exact br_t a0 (br_t a0 ⟨rfl, I0⟩)
  by_cases a3 : v1 ≤ 3
  case neg =>
    unfold wpX_value wpY_value
    dsimp only
    exact br_f a0 (br_f a3 (br_f a0 (br_f a3 ⟨rfl, I0⟩)))
  obtain ⟨κ, hκ, rfl⟩ := nI_of2 (n := 3) (by decide) a0 a3
  by_cases b : m = 40
  · subst b
    unfold wpX_value wpY_value
    dsimp only
    exact br_f a0 (br_t a3 (br_t (nI_le (a := 40) (Nat.le_refl _) (by omega)) (br_f a0 (br_t a3 (br_t rfl ⟨rfl, I0⟩)))))
  by_cases c : h = 12
  · subst c
    have hm : ¬ nI m = 40 := fun z => b ((nI_eq (b := 40) (by omega) (by omega)).mp z)
    unfold wpX_value wpY_value
    dsimp only
    exact br_f a0 (br_t a3 (br_f (nI_ge (b := 40) (by omega) (by omega)) (br_f (nI_nlt (b := 12) (Nat.le_refl _) (by omega)) (br_f a0 (br_t a3 (br_f hm (br_t rfl ⟨rfl, I0⟩)))))))
  have hh : h < 12 := by omega
  have hm : m < 40 := by omega
  by_cases e3 : κ = 3
  · subst e3
    have hne : ∀ s, V s → s ≠ 13 + m := fun s hs => by have := h12 s hs; omega
    refine xm_value3 rfl rfl hh hm (ym_value rfl rfl hh hm hκ (x' := v2) (fun _ => rfl) (fun z => absurd z (by omega)) ?_)
    have hox := vv_ox_p h11 (n := 13 + m) (by omega) hne v2
    have heq := vv_eq_p (V := V) (K := K) (N := N) (Z := Z) (D := D) (Im := Im) (W := W) (P := P) hne 3 v2
    have hup : ∀ {s : Int32} {w : Int64}, vv_R V K N Z D P mk o l kS d pl s w → _ := fun hR => vv_R_ux h11 h14 heq (V' := fun s => V s ∨ s = 13 + m) (fun _ z => Or.inl z) hR
    refine ⟨rfl, fun s => V s ∨ s = 13 + m, h + 1, m + 1, mk, pd, np, nf, ⟨rfl, rfl, by omega, rfl, rfl, by omega, h7, h8, by omega, by omega, hox, fun s hs => ?_, rl_b_up h13 (fun _ z => Or.inl z) (fun s hs => ⟨pk_un (hne s hs), pk_un (hne s hs)⟩), h14, fun i hi => ?_, hup h16⟩, hf, ?_⟩
    · rcases hs with z | z
      · have := h12 s z; omega
      · omega
    · by_cases ei : i = h
      · subst ei
        rw [pk_us, pk_uLs]
        exact vv_R_plain (by omega) (Or.inr rfl) (by omega) pk_us pk_us pk_us pk_us
      · rw [pk_un ei, pk_uLn ei]
        exact hup (h15 i (by omega))
    · refine rl_k_up (Nat.le_succ m) (vv_eq_p (fun s hs => by rcases hs with z | z <;> omega) 3 v2) (fun p => ?_) hkn
      obtain ⟨n, e1, e2, e3, _⟩ := h16
      rw [e1, nI_clamp (by omega)]
      exact vv_x_st h11 (fun s hs => vv_eq_x heq s hs) p n e3
  · refine xm_value0 rfl rfl hh hm (by omega) (ym_value rfl rfl hh hm hκ (x' := 0) (fun z => absurd z e3) (fun _ => rfl) ?_)
    refine ⟨rfl, V, h + 1, m + 1, mk, pd, np, nf, ⟨rfl, rfl, by omega, rfl, rfl, by omega, h7, h8, by omega, by omega, h11, fun s hs => by have := h12 s hs; omega, h13, h14, fun i hi => ?_, h16⟩, hf, ?_⟩
    · by_cases ei : i = h
      · subst ei
        rw [pk_us, pk_uLs]
        exact rl_R0 h11 h13 (by omega)
      · rw [pk_un ei, pk_uLn ei]
        exact h15 i (by omega)
    · exact rl_k_up (Nat.le_succ m) (fun s _ => ⟨rfl, rfl, rfl, rfl, rfl, rfl, fun _ _ => rfl⟩) (fun p => rfl) hkn
