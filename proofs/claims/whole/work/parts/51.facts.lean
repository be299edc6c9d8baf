/-! ===== facts at the head of X's loop ===== -/
section
variable {pO pX fP fU fR fO fA fG : Nat → Int32} {np n : Nat} {al : Nat → Prop} {m m' : Prop}
theorem fr_X_m {l : List Nat} (h : fr_X pO pX np n fP fU fR fO fA fG al l m) (hm : m' → m) : fr_X pO pX np n fP fU fR fO fA fG al l m' := by
  obtain ⟨h0, h1, h2, h3, h4, h5, h6⟩ := h
  exact ⟨h0, h1, h2, h3, h4, fun f hf hz => h5 f hf (hz.elim Or.inl (fun z => Or.inr ⟨hm z.1, z.2⟩)), h6⟩
/-- the parts fall along the path -/
theorem fr_len (h1 : ∀ f, f < n → fr_lk pO np n fP fU fR fO fA f) (hn : n ≤ 600) (hnp : np ≤ 40) : ∀ (l : List Nat) (c : Nat), fr_pa pO pX fP fU fA fG (c :: l) → (∀ f, f ∈ c :: l → f < n) → l.length + 1 + (fP c).toNatClampNeg ≤ np
  | [], c, _, hm => by
    obtain ⟨⟨q, e, hq⟩, _⟩ := h1 c (hm c List.mem_cons_self)
    rw [e, nI_clamp (by omega)]
    simp
    omega
  | p :: l, c, h, hm => by
    obtain ⟨a1, a2, a3, a4, a5⟩ := h
    have := fr_len h1 hn hnp l p a5 (fun f hf => hm f (List.mem_cons_of_mem _ hf))
    have hp := hm p (List.mem_cons_of_mem _ List.mem_cons_self)
    have hc := hm c List.mem_cons_self
    obtain ⟨_, _, k⟩ := h1 p hp
    rcases k with k | ⟨⟨c', e1, e2, e3, e4, e5⟩, _⟩
    · rw [a3] at k
      exact absurd k (fr_n1 (by omega))
    · have : c' = c := (nI_eq (by omega) (by omega)).mp (e1.symm.trans a3)
      subst this
      rw [List.length_cons]
      omega
end
theorem md_ph_0 (len : Nat) : md_ph 0 len = 360 - 4 * len := by unfold md_ph; rw [if_pos rfl]
theorem md_ph_1 (len : Nat) : md_ph 1 len = 400 + 4 * len := by unfold md_ph; rw [if_neg (by decide), if_pos rfl]
theorem md_ph_2 (len : Nat) : md_ph 2 len = 20 + 4 * len := by unfold md_ph; rw [if_neg (by decide), if_neg (by decide)]
theorem md_ph_3 (len : Nat) : md_ph 3 len = 20 + 4 * len := by unfold md_ph; rw [if_neg (by decide), if_neg (by decide)]
/-- what md_X says of the frame at hand -/
theorem mx_f {V al : Nat → Prop} {g : Nat} {pa : List Nat} {bo np n c rm a st : Nat} {xfr xno xsi xen xco xrm xac : Int32} {K N Z D Im W P K0 N0 Z0 D0 I0 W0 P0 pO pX fP fU fR fO fA fH fG : Nat → Int32}
    (h : md_X V al g pa bo np n c rm a st xfr xno xsi xen xco xrm xac K N Z D Im W P K0 N0 Z0 D0 I0 W0 P0 pO pX fP fU fR fO fA fH fG) :
    g < n ∧ n ≤ 600 ∧ st < 999980 ∧ pa.length + 1 ≤ 40 ∧ ∃ q, fP g = nI q ∧ q < np ∧ q < 40 := by
  obtain ⟨⟨x1, x2, x3, x4, x5, x6, x7, x8, x9, x10⟩, hs, hh, hb, hf, hr, hG, hpot⟩ := h
  obtain ⟨h0, h1, h2, h3, h4, h5, h6⟩ := hf
  have hg := h4 g (h3 g List.mem_cons_self)
  have hl := fr_len h1 h0 x10 pa g h2 (fun f hf => h4 f (h3 f hf))
  obtain ⟨⟨q, e, hq⟩, _⟩ := h1 g hg
  refine ⟨hg, h0, ?_, by omega, q, e, hq, by omega⟩
  have : 20 ≤ md_ph xsi (pa.length + 1) := by
    unfold md_ph
    split
    · omega
    · split <;> omega
  omega
/-- the part of the frame at hand, from any of Y's runs -/
theorem mx_o {pO pX pI yk : Nat → Int32} {fP : Nat → Int32} {g q : Nat} (e : fP g = nI q) (hq : q < 40) (h : fl_p pO pX pI yk q) : ∃ oq, oq ≤ 35 ∧ pO q = nI oq ∧ fr_o pO fP g = oq ∧ yk q = nI (fl_kk oq) ∧ (∀ r, r < fl_ar oq → ∃ c, pI (q * 3 + r) = nI c ∧ c < q) ∧
    (oq = 5 → ∃ m, m < 8 ∧ pX q = nI m) ∧ (oq = 6 → -10 ≤ (pX q).toInt ∧ (pX q).toInt ≤ 9) ∧ (oq = 13 → ∃ m, m < 3 ∧ pX q = nI m) ∧ (oq = 18 → ∃ m, m < 10 ∧ pX q = nI m) ∧ (oq = 20 → ∃ m, m < 8 ∧ pX q = nI m) ∧ (oq = 33 → ∃ m, m < 3 ∧ pX q = nI m) ∧ (oq = 35 → ∃ m, m < 3 ∧ pX q = nI m) := by
  obtain ⟨oq, a1, a2, a3, a4⟩ := h
  refine ⟨oq, a1, a2, ?_, a3, a4⟩
  unfold fr_o
  rw [e, nI_clamp (by omega), a2, nI_clamp (by omega)]
