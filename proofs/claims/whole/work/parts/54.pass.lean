/-! ===== an answer goes outwards ===== -/
theorem md_w1_u {fO fA fG : Nat → Int32} {n p : Nat} {y : Int32} (hp : p < n) (hy : y = 0 → fG p = 0) : vv_sm (md_w1 fO fA (upd fG p y)) n ≤ vv_sm (md_w1 fO fA fG) n := by
  have h := ct_u (w := md_w1 fO fA fG) (w' := md_w1 fO fA (upd fG p y)) hp (fun f _ hne => by unfold md_w1; rw [pk_un hne])
  have h2 : md_w1 fO fA (upd fG p y) p ≤ md_w1 fO fA fG p := by
    unfold md_w1
    rw [pk_us]
    by_cases z : y = 0
    · rw [if_pos z, if_pos (hy z)]
      exact Nat.le_refl _
    · rw [if_neg z]
      omega
  omega
theorem md_w2_u {fA fG : Nat → Int32} {n p : Nat} {y : Int32} (hp : p < n) (hy : y = 0 → fG p = 0) : vv_sm (md_w2 fA (upd fG p y)) n ≤ vv_sm (md_w2 fA fG) n := by
  have h := ct_u (w := md_w2 fA fG) (w' := md_w2 fA (upd fG p y)) hp (fun f _ hne => by unfold md_w2; rw [pk_un hne])
  have h2 : md_w2 fA (upd fG p y) p ≤ md_w2 fA fG p := by
    unfold md_w2
    rw [pk_us]
    by_cases z : y = 0
    · rw [z, hy z]
      exact Nat.le_refl _
    · rw [if_neg (fun w => z w.1)]
      omega
  omega
theorem md_bx_G {V : Nat → Prop} {rm n p : Nat} {pO fP fA fH fG K N Z D P : Nat → Int32} {y : Int32} (h : md_bx V rm n pO fP fA fH fG K N Z D P) (ho : fr_o pO fP p ≠ 16) : md_bx V rm n pO fP fA fH (upd fG p y) K N Z D P := by
  obtain ⟨h1, h2⟩ := h
  have ne : ∀ f, fr_o pO fP f = 16 → f ≠ p := fun f hf e => ho (by rw [← e]; exact hf)
  refine ⟨fun f hf o16 hA hG => h1 f hf o16 hA (by rw [pk_un (ne f o16)] at hG; exact hG), fun f f' hf hf' hne o1 a1 g1 o2 a2 g2 => h2 f f' hf hf' hne o1 a1 (by rw [pk_un (ne f o1)] at g1; exact g1) o2 a2 (by rw [pk_un (ne f' o2)] at g2; exact g2)⟩
theorem md_by_G {R : Int32 → Int64 → Prop} {n mk pd pd0 p : Nat} {pO fP fA fH fG Z P o l ya yW : Nat → Int32} {pl : Nat → Int64} {y y2 : Int32} (h : md_by R n mk pd pd0 pO fP fA fH fG Z P o l ya yW pl) (ho : fr_o pO fP p ≠ 16) : md_by R n mk pd pd0 pO fP fA fH (upd fG p y) Z P o l ya (upd yW p y2) pl := by
  obtain ⟨h1, h2⟩ := h
  have ne : ∀ f, fr_o pO fP f = 16 → f ≠ p := fun f hf e => ho (by rw [← e]; exact hf)
  refine ⟨fun f hf o16 hA => ?_, h2⟩
  rw [pk_un (ne f o16), pk_un (ne f o16)]
  exact h1 f hf o16 hA
theorem md_w3_G {pO fP fA fG : Nat → Int32} {n p : Nat} {y : Int32} (ho : fr_o pO fP p ≠ 16) : vv_sm (md_w3 pO fP fA (upd fG p y)) n = vv_sm (md_w3 pO fP fA fG) n := by
  apply vv_sm_c
  intro f _
  unfold md_w3
  by_cases e : f = p
  · subst e
    rw [if_neg (fun z => ho z.1), if_neg (fun z => ho z.1)]
  · rw [pk_un e]
theorem md_w3_A {pO fP fA fG : Nat → Int32} {n p : Nat} {y : Int32} (ho : fr_o pO fP p ≠ 16) : vv_sm (md_w3 pO fP (upd fA p y) fG) n = vv_sm (md_w3 pO fP fA fG) n := by
  apply vv_sm_c
  intro f _
  unfold md_w3
  by_cases e : f = p
  · subst e
    rw [if_neg (fun z => ho z.1), if_neg (fun z => ho z.1)]
  · rw [pk_un e]
theorem md_w3_n {pO fP fA fG : Nat → Int32} {n p : Nat} {q : Int32} (hp : p < n) (ho : fr_o pO fP p ≠ 16) : vv_sm (md_w3 pO (upd fP n q) (upd (upd fA n (-1)) p (nI n)) (upd fG n 0)) (n + 1) = vv_sm (md_w3 pO fP fA fG) n := by
  have e1 : vv_sm (md_w3 pO (upd fP n q) (upd (upd fA n (-1)) p (nI n)) (upd fG n 0)) n = vv_sm (md_w3 pO fP fA fG) n := by
    apply vv_sm_c
    intro f hf
    have hfn : f ≠ n := by omega
    have eo : fr_o pO (upd fP n q) f = fr_o pO fP f := by unfold fr_o; rw [pk_un hfn]
    unfold md_w3
    rw [eo, pk_un hfn]
    by_cases e : f = p
    · subst e
      rw [if_neg (fun z => ho z.1), if_neg (fun z => ho z.1)]
    · rw [pk_un e, pk_un hfn]
  have e2 : md_w3 pO (upd fP n q) (upd (upd fA n (-1)) p (nI n)) (upd fG n 0) n = 0 := by
    unfold md_w3
    rw [pk_un (show n ≠ p by omega), pk_us, if_neg (fun z => z.2.1 rfl)]
  rw [vv_sm, e1, e2, Nat.add_zero]
