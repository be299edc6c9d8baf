theorem xk_merged {xst xow xin xpa xfi xfr xno xsi xan xkn xen xco xrm xac : Int32} {K N Z D Im W P vS pO pX pI fS fP fI fU fR fO fA fH fG fN aS qL qR qP : Nat → Int32} {V : Nat → Prop} {post : SX → Prop} {s t ml mr rm : Nat} {c e q w : Nat → Nat} (hs : s < 653) (ht : t < 653) (er : xrm = nI rm) (hrm : rm < 600) (eNs : N s = nI ml) (eNt : N t = nI mr) (hml : ml < 256) (hmr : mr < 256) (ns : s ≠ 53 + rm) (nt : t ≠ 53 + rm)
    (hc : ns_ch V D Im W (53 + rm) (vv_pc (ml ||| mr) 8) (mg_c P s t ml mr) c e q w) (hne : ∀ u, V u → u ≠ 53 + rm)
    (hp : ∀ K' N' Z' D' Im' W' P' : Nat → Int32, vv_ns (53 + rm) 5 (vv_pc (ml ||| mr) 8) 1 (nI (ml ||| mr)) (mg_c P s t ml mr) e q w K N Z D Im W P K' N' Z' D' Im' W' P' → post (xst, xow, xin, xpa, xfi, xfr, xno, 1, (nI (53 + rm)), xkn, xen, xco, (nI (rm + 1)), xac, K', N', Z', D', Im', W', P', vS, pO, pX, pI, fS, fP, fI, fU, fR, fO, fA, fH, fG, fN, aS, qL, qR, qP)) : wpX_makeMerged post (xst, xow, xin, xpa, xfi, xfr, xno, xsi, xan, xkn, xen, xco, xrm, xac, K, N, Z, D, Im, W, P, vS, pO, pX, pI, fS, fP, fI, fU, fR, fO, fA, fH, fG, fN, aS, qL, qR, qP) (nI s) (nI t) := by
  have his : vp_in (nI s) 653 := vp_in_nI hs (by omega)
  have hit : vp_in (nI t) 653 := vp_in_nI ht (by omega)
  have es : (nI s).toNatClampNeg = s := nI_clamp (by omega)
  have et : (nI t).toNatClampNeg = t := nI_clamp (by omega)
  have hor := or_lt hml hmr
  have h8 := vv_pc_8' (m := ml ||| mr)
  have h8l := vv_pc_8' (m := ml)
  have h8r := vv_pc_8' (m := mr)
  unfold wpX_makeMerged
  dsimp only
  refine xr_runSlot er ⟨his, hit, ?_⟩
  dsimp only
  rw [es, et, eNs, eNt, nx_or]
  refine xm_setNested (by omega) ?_
  have k39 : ∀ r k (Z' P' : Nat → Int32), k + r = 8 → (∀ u, u ≠ 53 + rm → Z' u = Z u ∧ ∀ j, j < 10 → P' (u * 10 + j) = P (u * 10 + j)) → Z' (53 + rm) = nI (vv_pc (ml ||| mr) k) → (∀ j, j < vv_pc (ml ||| mr) k → P' ((53 + rm) * 10 + j) = mg_c P s t ml mr j) →
      wX_makeMerged_39 post (nI s) (nI t) (nI (53 + rm)) (r + 1) (nI (s * 10 + vv_pc ml k)) (nI (t * 10 + vv_pc mr k)) (nI k) xst xow xin xpa xfi xfr xno xsi xan xkn xen xco (nI (rm + 1)) xac (upd K (53 + rm) 5) (upd N (53 + rm) (nI (ml ||| mr))) Z' D Im W P' vS pO pX pI fS fP fI fU fR fO fA fH fG fN aS qL qR qP := by
    intro r
    induction r with
    | zero =>
      intro k Z' P' hk ho eZ' eP'
      have hk' : k = 8 := by omega
      subst hk'
      unfold wX_makeMerged_39
      refine br_t (nI_le (a := 8) (Nat.le_refl _) (by omega)) ?_
      refine xm_ns (V := V) (c := c) (K0 := K) (N0 := N) (Z0 := Z) (P0 := P) (by omega) (by omega) (Or.inr ⟨rfl, rfl⟩) hc hne (fun u hu => ⟨pk_un hu, pk_un hu, (ho u hu).1, (ho u hu).2⟩) pk_us pk_us eZ' eP' (fun D' Im' W' hns => ?_)
      exact xr_give (hp _ _ _ _ _ _ _ hns)
    | succ r ih =>
      intro k Z' P' hk ho eZ' eP'
      have ul := vv_pc_u (m := ml) (a := k + 1) (b := 8) (by omega)
      have ur := vv_pc_u (m := mr) (a := k + 1) (b := 8) (by omega)
      have uo := vv_pc_u (m := ml ||| mr) (a := k + 1) (b := 8) (by omega)
      have sl := vv_pc_s ml k
      have sr := vv_pc_s mr k
      have so := vv_pc_s (ml ||| mr) k
      have ob := or_bit ml mr k
      -- what is behind a key
      have k111 : ∀ (Z2 P2 : Nat → Int32), (∀ u, u ≠ 53 + rm → Z2 u = Z u ∧ ∀ j, j < 10 → P2 (u * 10 + j) = P (u * 10 + j)) → Z2 (53 + rm) = nI (vv_pc (ml ||| mr) (k + 1)) → (∀ j, j < vv_pc (ml ||| mr) (k + 1) → P2 ((53 + rm) * 10 + j) = mg_c P s t ml mr j) →
          wX_makeMerged_111 post (wX_makeMerged_39 post (nI s) (nI t) (nI (53 + rm)) (r + 1)) (nI s) (nI t) (nI (53 + rm)) (nI (s * 10 + vv_pc ml k)) (nI (t * 10 + vv_pc mr k)) (nI k) (nI (ml / 2 ^ k % 2)) (nI (mr / 2 ^ k % 2)) xst xow xin xpa xfi xfr xno xsi xan xkn xen xco (nI (rm + 1)) xac (upd K (53 + rm) 5) (upd N (53 + rm) (nI (ml ||| mr))) Z2 D Im W P2 vS pO pX pI fS fP fI fU fR fO fA fH fG fN aS qL qR qP := by
        intro Z2 P2 ho2 eZ2 eP2
        have := ih (k + 1) Z2 P2 (by omega) ho2 eZ2 eP2
        rw [sl, sr, ← Nat.add_assoc, ← Nat.add_assoc] at this
        unfold wX_makeMerged_111
        exact nm_r (nI_add _ _) (nm_r (nI_add _ _) (nm_r (nI_1 k) this))
      have fill : (ml ||| mr) / 2 ^ k % 2 = 1 → ∀ x : Int32, x = mg_c P s t ml mr (vv_pc (ml ||| mr) k) → ∀ Q : SX → Prop, (∀ (Z2 P2 : Nat → Int32), (∀ u, u ≠ 53 + rm → Z2 u = Z u ∧ ∀ j, j < 10 → P2 (u * 10 + j) = P (u * 10 + j)) → Z2 (53 + rm) = nI (vv_pc (ml ||| mr) (k + 1)) → (∀ j, j < vv_pc (ml ||| mr) (k + 1) → P2 ((53 + rm) * 10 + j) = mg_c P s t ml mr j) → Q (xst, xow, xin, xpa, xfi, xfr, xno, xsi, xan, xkn, xen, xco, (nI (rm + 1)), xac, (upd K (53 + rm) 5), (upd N (53 + rm) (nI (ml ||| mr))), Z2, D, Im, W, P2, vS, pO, pX, pI, fS, fP, fI, fU, fR, fO, fA, fH, fG, fN, aS, qL, qR, qP)) → wpX_addTo Q (xst, xow, xin, xpa, xfi, xfr, xno, xsi, xan, xkn, xen, xco, (nI (rm + 1)), xac, (upd K (53 + rm) 5), (upd N (53 + rm) (nI (ml ||| mr))), Z', D, Im, W, P', vS, pO, pX, pI, fS, fP, fI, fU, fR, fO, fA, fH, fG, fN, aS, qL, qR, qP) (nI (53 + rm)) x := by
        intro hb x hx Q hQ
        refine xm_addTo (z := vv_pc (ml ||| mr) k) (by omega) eZ' (by omega) (hQ _ _ (fun u hu => ⟨(pk_un hu).trans (ho u hu).1, fun j hj => (pk_un (vv_pl hu hj (by omega))).trans ((ho u hu).2 j hj)⟩) (by rw [pk_us, so, hb]) (fun j hj => ?_))
        by_cases ej : j = vv_pc (ml ||| mr) k
        · subst ej
          rw [pk_us]
          exact hx
        · rw [pk_un (by omega)]; exact eP' j (by omega)
      unfold wX_makeMerged_39
      rw [es, et, pk_un ns, pk_un nt, eNs, eNt, kb_bit (show ml < 2 ^ 31 by omega) (show k < 32 by omega), kb_bit (show mr < 2 ^ 31 by omega) (show k < 32 by omega), nI_clamp (show t * 10 + vv_pc mr k < 2 ^ 31 by omega), nI_clamp (show s * 10 + vv_pc ml k < 2 ^ 31 by omega)]
      refine br_f (nI_ge (b := 8) (by omega) (by omega)) ⟨his, nm_e ⟨hit, nm_e (pk_eq (mr / 2 ^ k % 2) 1 (fun e1 => ?_) (fun n1 => pk_eq (ml / 2 ^ k % 2) 1 (fun e2 => ?_) (fun n2 => ?_)))⟩⟩
      · have hb : (ml ||| mr) / 2 ^ k % 2 = 1 := by rw [ob, if_pos (Or.inr e1)]
        have hky := ky_u hor (show k < 8 by omega) hb rfl
        refine ⟨vp_in_nI (by omega) (by omega), fill hb _ ?_ _ k111⟩
        unfold mg_c
        rw [hky, if_pos e1]
        exact (ho t nt).2 _ (by omega)
      · have hb : (ml ||| mr) / 2 ^ k % 2 = 1 := by rw [ob, if_pos (Or.inl e2)]
        have hky := ky_u hor (show k < 8 by omega) hb rfl
        refine ⟨vp_in_nI (by omega) (by omega), fill hb _ ?_ _ k111⟩
        unfold mg_c
        rw [hky, if_neg n1]
        exact (ho s ns).2 _ (by omega)
      · have hb : (ml ||| mr) / 2 ^ k % 2 = 0 := by rw [ob, if_neg (by omega)]
        rw [hb, Nat.add_zero] at so
        exact k111 Z' P' ho (by rw [so]; exact eZ') (by rw [so]; exact eP')
  have := k39 8 0 _ _ (by omega) (fun u hu => ⟨pk_un (f := Z) (x := 0) hu, fun _ _ => rfl⟩) pk_us (fun j hj => absurd hj (by show ¬ j < 0; omega))
  refine nm_r (show nI s * 10 = nI (s * 10 + vv_pc ml 0) from pk_mul s 10) (nm_r (show nI t * 10 = nI (t * 10 + vv_pc mr 0) from pk_mul t 10) ⟨_, this⟩)
