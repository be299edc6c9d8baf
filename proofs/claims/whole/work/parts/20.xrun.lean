/-! ===== X's run: counting, applying ===== -/
theorem xr_counts {xst xow xin xpa xfi xfr xno xsi xan xkn xen xco xrm xac : Int32} {K N Z D Im W P vS pO pX pI fS fP fI fU fR fO fA fH fG fN aS qL qR qP : Nat → Int32} {post : Int32 → SX → Prop} {c : Nat} (ec : xco = nI c) (hc : c < 600) (hp : post 1 (xst, xow, xin, xpa, xfi, xfr, xno, xsi, xan, xkn, xen, (nI (c + 1)), xrm, xac, K, N, Z, D, Im, W, P, vS, pO, pX, pI, fS, fP, fI, fU, fR, fO, fA, fH, fG, fN, aS, qL, qR, qP)) : wpX_counts post (xst, xow, xin, xpa, xfi, xfr, xno, xsi, xan, xkn, xen, xco, xrm, xac, K, N, Z, D, Im, W, P, vS, pO, pX, pI, fS, fP, fI, fU, fR, fO, fA, fH, fG, fN, aS, qL, qR, qP) := by
  subst ec
  unfold wpX_counts
  dsimp only
  rw [nI_1]
  exact br_t (nI_lt (b := 600) hc (by omega)) (nm_e hp)
theorem xr_tired {xst xow xin xpa xfi xfr xno xsi xan xkn xen xco xrm xac : Int32} {K N Z D Im W P vS pO pX pI fS fP fI fU fR fO fA fH fG fN aS qL qR qP : Nat → Int32} {post : Int32 → SX → Prop} (ec : xco = nI 600) (hp : post 0 (xst, xow, xin, xpa, xfi, xfr, xno, xsi, xan, xkn, 3, xco, xrm, xac, K, N, Z, D, Im, W, P, vS, pO, pX, pI, fS, fP, fI, fU, fR, fO, fA, fH, fG, fN, aS, qL, qR, qP)) : wpX_counts post (xst, xow, xin, xpa, xfi, xfr, xno, xsi, xan, xkn, xen, xco, xrm, xac, K, N, Z, D, Im, W, P, vS, pO, pX, pI, fS, fP, fI, fU, fR, fO, fA, fH, fG, fN, aS, qL, qR, qP) := by
  subst ec
  unfold wpX_counts
  dsimp only
  exact br_f (by decide) hp
def fn_c (fN : Nat → Int32) (n g : Nat) : Nat → Nat → Int32
  | 0 => fN
  | i + 1 => upd (fn_c fN n g i) (n * 3 + i) (fN (g * 3 + i))
def fn_z (fN : Nat → Int32) (n : Nat) : Nat → Nat → Int32
  | 0 => fN
  | i + 1 => upd (fn_z fN n i) (n * 3 + i) 0
theorem fn_c_lo {fN : Nat → Int32} {n g j : Nat} (hj : j < n * 3) : ∀ i, fn_c fN n g i j = fN j
  | 0 => rfl
  | i + 1 => by rw [fn_c, pk_un (by omega)]; exact fn_c_lo hj i
theorem fn_c_at {fN : Nat → Int32} {n g x : Nat} : ∀ i, x < i → fn_c fN n g i (n * 3 + x) = fN (g * 3 + x)
  | 0, h => absurd h (by omega)
  | i + 1, h => by
    rw [fn_c]
    by_cases e : x = i
    · subst e; rw [pk_us]
    · rw [pk_un (by omega)]; exact fn_c_at i (by omega)
theorem fn_z_at {fN : Nat → Int32} {n x : Nat} : ∀ i, x < i → fn_z fN n i (n * 3 + x) = 0
  | 0, h => absurd h (by omega)
  | i + 1, h => by
    rw [fn_z]
    by_cases e : x = i
    · subst e; rw [pk_us]
    · rw [pk_un (by omega)]; exact fn_z_at i (by omega)
theorem xr_apply {xst xow xin xpa xfi xfr xno xsi xan xkn xen xco xrm xac : Int32} {K N Z D Im W P vS pO pX pI fS fP fI fU fR fO fA fH fG fN aS qL qR qP : Nat → Int32} {post : SX → Prop} {n c g q r : Nat} {s : Int32} (efr : xfr = nI n) (eno : xno = nI g) (eco : xco = nI c) (hn : n < 600) (hc : c < 600) (hg : g < n) (eP : fP g = nI q) (hq : q < 40) (hr : r < 3)
    (h0 : r = 0 → post (xst, xow, xin, xpa, xfi, (nI (n + 1)), (nI n), 0, xan, xkn, xen, (nI (c + 1)), xrm, xac, K, N, Z, D, Im, W, P, vS, pO, pX, pI, fS, (upd fP n (pI (q * 3 + r))), (upd fI n s), (upd fU n (nI g)), (upd fR n (nI r)), (upd (upd fO n (-1)) g (nI n)), (upd (upd fA n (-1)) g (nI n)), (upd fH n 0), (upd fG n 0), (fn_c fN n g 3), aS, qL, qR, qP))
    (h1 : r ≠ 0 → post (xst, xow, xin, xpa, xfi, (nI (n + 1)), (nI n), 0, xan, xkn, xen, (nI (c + 1)), xrm, xac, K, N, Z, D, Im, W, P, vS, pO, pX, pI, fS, (upd fP n (pI (q * 3 + r))), (upd fI n s), (upd fU n (nI g)), (upd fR n (nI r)), (upd fO n (-1)), (upd (upd fA n (-1)) g (nI n)), (upd fH n 0), (upd fG n 0), (fn_c fN n g 3), aS, qL, qR, qP)) :
    wpX_apply post (xst, xow, xin, xpa, xfi, xfr, xno, xsi, xan, xkn, xen, xco, xrm, xac, K, N, Z, D, Im, W, P, vS, pO, pX, pI, fS, fP, fI, fU, fR, fO, fA, fH, fG, fN, aS, qL, qR, qP) (nI r) s := by
  subst efr eno eco
  have eg : (nI g).toNatClampNeg = g := nI_clamp (by omega)
  have en : (nI n).toNatClampNeg = n := nI_clamp (by omega)
  have hin : vp_in (nI n) 600 := vp_in_nI hn (by omega)
  have hig : vp_in (nI g) 600 := vp_in_nI (by omega) (by omega)
  have k131 : ∀ t i, i + t = 3 → wX_apply_131 post (nI r) (nI n) 0 xst xow xin xpa xfi (nI (n + 1)) (nI g) xsi xan xkn xen (nI (c + 1)) xrm xac (t + 1) (nI i) K N Z D Im W P vS pO pX pI fS (upd fP n (pI (q * 3 + r))) (upd fI n s) (upd fU n (nI g)) (upd fR n (nI r)) (upd fO n (-1)) (upd fA n (-1)) (upd fH n 0) (upd fG n 0) (fn_c fN n g i) aS qL qR qP := by
    intro t
    induction t with
    | zero =>
      intro i hi
      have hi' : i = 3 := by omega
      subst hi'
      unfold wX_apply_131
      rw [eg]
      refine br_t (nI_le (a := 3) (Nat.le_refl _) (by omega)) (br_t rfl ⟨hig, nm_e ?_⟩)
      refine pk_eq r 0 (fun z => ⟨hig, nm_e (h0 z)⟩) (fun z => h1 z)
    | succ t ih =>
      intro i hi
      unfold wX_apply_131
      rw [xi_3, xi_3, nI_clamp (show g * 3 + i < 2 ^ 31 by omega), nI_clamp (show n * 3 + i < 2 ^ 31 by omega), fn_c_lo (show g * 3 + i < n * 3 by omega)]
      exact br_f (nI_ge (b := 3) (by omega) (by omega)) (br_t rfl ⟨vp_in_nI (by omega) (by omega), vp_in_nI (by omega) (by omega), nm_e (nm_r (nI_1 i) (ih (i + 1) (by omega)))⟩)
  unfold wpX_apply
  dsimp only
  refine xr_counts rfl hc ?_
  dsimp only
  refine br_f (by decide) (nm_r (nI_1 n) (br_f (fr_n1 (by omega)) ?_))
  unfold wX_apply_36
  rw [eg, eP, xi_3, nI_clamp (show q * 3 + r < 2 ^ 31 by omega)]
  refine br_t rfl ⟨hig, vp_in_nI (by omega) (by omega), ?_⟩
  unfold wX_apply_75
  rw [en]
  exact ⟨hin, nm_e ⟨hin, nm_e ⟨hin, nm_e ⟨hin, nm_e ⟨hin, nm_e ⟨hin, nm_e ⟨hin, nm_e ⟨hin, nm_e ⟨_, k131 3 0 (by omega)⟩⟩⟩⟩⟩⟩⟩⟩⟩
theorem xr_apply_t {xst xow xin xpa xfi xfr xno xsi xan xkn xen xco xrm xac : Int32} {K N Z D Im W P vS pO pX pI fS fP fI fU fR fO fA fH fG fN aS qL qR qP : Nat → Int32} {post : SX → Prop} {r s : Int32} (eco : xco = nI 600) (hp : post (xst, xow, xin, xpa, xfi, xfr, xno, xsi, xan, xkn, 3, xco, xrm, xac, K, N, Z, D, Im, W, P, vS, pO, pX, pI, fS, fP, fI, fU, fR, fO, fA, fH, fG, fN, aS, qL, qR, qP)) : wpX_apply post (xst, xow, xin, xpa, xfi, xfr, xno, xsi, xan, xkn, xen, xco, xrm, xac, K, N, Z, D, Im, W, P, vS, pO, pX, pI, fS, fP, fI, fU, fR, fO, fA, fH, fG, fN, aS, qL, qR, qP) r s := by
  unfold wpX_apply
  dsimp only
  exact xr_tired eco (br_t rfl hp)
theorem xr_apply_0 {xst xow xin xpa xfi xfr xno xsi xan xkn xen xco xrm xac : Int32} {K N Z D Im W P vS pO pX pI fS fP fI fU fR fO fA fH fG fN aS qL qR qP : Nat → Int32} {post : SX → Prop} {s : Int32} (efr : xfr = 0) (eno : xno = -1) (eco : xco = 0)
    (hp : post (xst, xow, xin, xpa, xfi, (nI 1), (nI 0), 0, xan, xkn, xen, (nI 1), xrm, xac, K, N, Z, D, Im, W, P, vS, pO, pX, pI, fS, (upd fP 0 (fS 0)), (upd fI 0 s), (upd fU 0 (-1)), (upd fR 0 0), (upd fO 0 (-1)), (upd fA 0 (-1)), (upd fH 0 0), (upd fG 0 0), (fn_z fN 0 3), aS, qL, qR, qP)) :
    wpX_apply post (xst, xow, xin, xpa, xfi, xfr, xno, xsi, xan, xkn, xen, xco, xrm, xac, K, N, Z, D, Im, W, P, vS, pO, pX, pI, fS, fP, fI, fU, fR, fO, fA, fH, fG, fN, aS, qL, qR, qP) 0 s := by
  subst efr eno eco
  have en : (0 : Int32).toNatClampNeg = 0 := by decide
  have hin : vp_in 0 600 := vp_in_nI (n := 0) (by omega) (by omega)
  have k131 : ∀ t i, i + t = 3 → wX_apply_131 post 0 0 1 xst xow xin xpa xfi (nI 1) (-1) xsi xan xkn xen (nI 1) xrm xac (t + 1) (nI i) K N Z D Im W P vS pO pX pI fS (upd fP 0 (fS 0)) (upd fI 0 s) (upd fU 0 (-1)) (upd fR 0 0) (upd fO 0 (-1)) (upd fA 0 (-1)) (upd fH 0 0) (upd fG 0 0) (fn_z fN 0 i) aS qL qR qP := by
    intro t
    induction t with
    | zero =>
      intro i hi
      have hi' : i = 3 := by omega
      subst hi'
      unfold wX_apply_131
      exact br_t (nI_le (a := 3) (Nat.le_refl _) (by omega)) (br_f (by decide) hp)
    | succ t ih =>
      intro i hi
      unfold wX_apply_131
      rw [show (0 : Int32) * 3 + nI i = nI (0 * 3 + i) from xi_3 0 i, nI_clamp (show 0 * 3 + i < 2 ^ 31 by omega)]
      exact br_f (nI_ge (b := 3) (by omega) (by omega)) (br_f (by decide) ⟨vp_in_nI (by omega) (by omega), nm_e (nm_r (nI_1 i) (ih (i + 1) (by omega)))⟩)
  unfold wpX_apply
  dsimp only
  refine xr_counts (c := 0) rfl (by omega) ?_
  dsimp only
  refine br_f (by decide) (nm_e (br_t rfl ?_))
  unfold wX_apply_36
  refine br_f (by decide) ?_
  unfold wX_apply_75
  rw [en]
  exact ⟨hin, nm_e ⟨hin, nm_e ⟨hin, nm_e ⟨hin, nm_e ⟨hin, nm_e ⟨hin, nm_e ⟨hin, nm_e ⟨hin, nm_e ⟨_, k131 3 0 (by omega)⟩⟩⟩⟩⟩⟩⟩⟩⟩
/-! ===== X's run: giving ===== -/
theorem xr_give {xst xow xin xpa xfi xfr xno xsi xan xkn xen xco xrm xac : Int32} {K N Z D Im W P vS pO pX pI fS fP fI fU fR fO fA fH fG fN aS qL qR qP : Nat → Int32} {post : SX → Prop} {s : Int32} (hp : post (xst, xow, xin, xpa, xfi, xfr, xno, 1, s, xkn, xen, xco, xrm, xac, K, N, Z, D, Im, W, P, vS, pO, pX, pI, fS, fP, fI, fU, fR, fO, fA, fH, fG, fN, aS, qL, qR, qP)) : wpX_give post (xst, xow, xin, xpa, xfi, xfr, xno, xsi, xan, xkn, xen, xco, xrm, xac, K, N, Z, D, Im, W, P, vS, pO, pX, pI, fS, fP, fI, fU, fR, fO, fA, fH, fG, fN, aS, qL, qR, qP) s := by
  unfold wpX_give
  exact hp
theorem xr_runSlot {xst xow xin xpa xfi xfr xno xsi xan xkn xen xco xrm xac : Int32} {K N Z D Im W P vS pO pX pI fS fP fI fU fR fO fA fH fG fN aS qL qR qP : Nat → Int32} {post : Int32 → SX → Prop} {rm : Nat} (e : xrm = nI rm) (hp : post (nI (53 + rm)) (xst, xow, xin, xpa, xfi, xfr, xno, xsi, xan, xkn, xen, xco, (nI (rm + 1)), xac, K, N, Z, D, Im, W, P, vS, pO, pX, pI, fS, fP, fI, fU, fR, fO, fA, fH, fG, fN, aS, qL, qR, qP)) : wpX_runSlot post (xst, xow, xin, xpa, xfi, xfr, xno, xsi, xan, xkn, xen, xco, xrm, xac, K, N, Z, D, Im, W, P, vS, pO, pX, pI, fS, fP, fI, fU, fR, fO, fA, fH, fG, fN, aS, qL, qR, qP) := by
  subst e
  unfold wpX_runSlot
  dsimp only
  rw [xi_53, nI_1]
  exact nm_e (nm_e hp)
theorem xr_giveNumber {xst xow xin xpa xfi xfr xno xsi xan xkn xen xco xrm xac : Int32} {K N Z D Im W P vS pO pX pI fS fP fI fU fR fO fA fH fG fN aS qL qR qP : Nat → Int32} {post : SX → Prop} {rm : Nat} {x : Int32} (e : xrm = nI rm) (hrm : rm < 600)
    (hp : post (xst, xow, xin, xpa, xfi, xfr, xno, 1, (nI (53 + rm)), xkn, xen, xco, (nI (rm + 1)), xac, (upd K (53 + rm) 3), (upd N (53 + rm) x), (upd Z (53 + rm) 0), (upd D (53 + rm) 0), (upd Im (53 + rm) 1), (upd W (53 + rm) 1), P, vS, pO, pX, pI, fS, fP, fI, fU, fR, fO, fA, fH, fG, fN, aS, qL, qR, qP)) : wpX_giveNumber post (xst, xow, xin, xpa, xfi, xfr, xno, xsi, xan, xkn, xen, xco, xrm, xac, K, N, Z, D, Im, W, P, vS, pO, pX, pI, fS, fP, fI, fU, fR, fO, fA, fH, fG, fN, aS, qL, qR, qP) x := by
  unfold wpX_giveNumber
  dsimp only
  exact xr_runSlot e (xm_setPlain (by omega) (xr_give hp))
theorem xr_giveTruth {xst xow xin xpa xfi xfr xno xsi xan xkn xen xco xrm xac : Int32} {K N Z D Im W P vS pO pX pI fS fP fI fU fR fO fA fH fG fN aS qL qR qP : Nat → Int32} {post : SX → Prop} {b : Int32} (h0 : b = 0 → post (xst, xow, xin, xpa, xfi, xfr, xno, 1, 1, xkn, xen, xco, xrm, xac, K, N, Z, D, Im, W, P, vS, pO, pX, pI, fS, fP, fI, fU, fR, fO, fA, fH, fG, fN, aS, qL, qR, qP)) (h1 : ¬ b = 0 → post (xst, xow, xin, xpa, xfi, xfr, xno, 1, 2, xkn, xen, xco, xrm, xac, K, N, Z, D, Im, W, P, vS, pO, pX, pI, fS, fP, fI, fU, fR, fO, fA, fH, fG, fN, aS, qL, qR, qP)) : wpX_giveTruth post (xst, xow, xin, xpa, xfi, xfr, xno, xsi, xan, xkn, xen, xco, xrm, xac, K, N, Z, D, Im, W, P, vS, pO, pX, pI, fS, fP, fI, fU, fR, fO, fA, fH, fG, fN, aS, qL, qR, qP) b := by
  unfold wpX_giveTruth
  dsimp only
  refine br_c (fun z => ?_) (fun z => ?_)
  · unfold wX_giveTruth_10
    exact xr_give (h0 z)
  · unfold wX_giveTruth_10
    exact xr_give (h1 z)
theorem xr_isEmpty {xst xow xin xpa xfi xfr xno xsi xan xkn xen xco xrm xac : Int32} {K N Z D Im W P vS pO pX pI fS fP fI fU fR fO fA fH fG fN aS qL qR qP : Nat → Int32} {post : Int32 → Prop} {n κ : Nat} (hn : n < 653) (e : K n = nI κ) (hκ : κ ≤ 5) (h0 : 2 ≤ κ → post 0) (h1 : κ < 2 → post 1) : wpX_isEmpty post (xst, xow, xin, xpa, xfi, xfr, xno, xsi, xan, xkn, xen, xco, xrm, xac, K, N, Z, D, Im, W, P, vS, pO, pX, pI, fS, fP, fI, fU, fR, fO, fA, fH, fG, fN, aS, qL, qR, qP) (nI n) := by
  unfold wpX_isEmpty
  dsimp only
  rw [nI_clamp (show n < 2 ^ 31 by omega), e]
  exact ⟨vp_in_nI hn (by omega), pk_lt 1 κ (fun z => h0 z) (fun z => h1 (by omega))⟩
