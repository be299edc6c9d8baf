/-! ===== heard, whatever the op ===== -/
theorem cq_hear {p : Nat} {pa' : List Nat} {post : SX → Prop} {T : List Nat → Option vv_L} {nf bo np : Nat} {K0 N0 Z0 D0 I0 W0 P0 : Nat → Int32} {xst xow xin xpa xfi xfr xno xsi xan xkn xen xco xrm xac : Int32} {K N Z D Im W P vS pO pX pI fS fP fI fU fR fO fA fH fG fN aS qL qR qP : Nat → Int32} {st : Nat} {V al : Nat → Prop} {g : Nat} {n c rm a : Nat}
    (hX : md_X V al g (p :: pa') bo np n c rm a st xfr xno xsi xen xco xrm xac K N Z D Im W P K0 N0 Z0 D0 I0 W0 P0 pO pX fP fU fR fO fA fH fG) (hv : mv_X V n xsi xan pO fP fI fH fN) (ha : ma_X V a aS)
    (hM : ∀ (mk0 pd0 : Nat) (v0 : SY), kn_F T np nf pO pX pI fS mk0 pd0 v0 → rm_M V (p :: pa') g np n c rm a st xsi xan K N Z D W P pO pX pI fP fI fO fA fH fG fN aS mk0 pd0 v0)
    (H : lp_G T nf bo np K0 N0 Z0 D0 I0 W0 P0 post xst xow xin xpa xfi xkn vS pO pX pI fS st) (es : xsi = 1 ∨ xsi = 2 ∨ xsi = 3) : wX_workOut_68 post (1000001 - st) (nI st) xst xow xin xpa xfi xfr xno xsi xan xkn xen xco xrm xac K N Z D Im W P vS pO pX pI fS fP fI fU fR fO fA fH fG fN aS qL qR qP := by
  obtain ⟨hpg, hgn, hn6, hU, hA, hrun, hro⟩ := mx_p hX
  obtain ⟨_, _, hst, hlen, _⟩ := mx_f hX
  have hX0 := hX
  obtain ⟨⟨x1, x2, x3, x4, x5, x6, x7, x8, x9, x10⟩, hs, hh, hb, hf, hr, hG, hpot⟩ := hX
  have hpn : p < n := by omega
  obtain ⟨⟨q, eP, hqn⟩, hlO, _⟩ := hf.2.1 p hpn
  have hq : q < 40 := by omega
  obtain ⟨yk', hfp⟩ := H.1 q hqn
  obtain ⟨oq, p1, eO, p3, p4, p5, p6, p13, p18, p20, p33, p35⟩ := hfp
  have hfo := mx_fo eP hq eO p1
  have hA1 : nI g ≠ -1 := fr_n1 (by omega)
  rcases hro with ⟨r0, rO⟩ | ⟨r1, rO, r21, rx, ry⟩
  · have h16 : 16 ≤ oq := by
      rcases hlO with w | ⟨_, _, w, _⟩
      · exact absurd (rO.symm.trans w) hA1
      · omega
    rcases es with es | es | es
    · obtain ⟨s, ea, hVs⟩ := hv.1 es
      obtain ⟨hs6, κ, hκ, eK⟩ := vx_k hh.1 hVs
      have huni : ∀ s' κ', s' < 653 → xan = nI s' → K s' = nI κ' → κ' ≤ 5 → κ' = κ := fun s' κ' h1 h2 h3 h4 => by
        have : s' = s := (nI_eq (by omega) (by omega)).mp (h2.symm.trans ea)
        subst this
        exact (nI_eq (by omega) (by omega)).mp (h3.symm.trans eK)
      rcases (show oq = 16 ∨ oq = 17 ∨ oq = 18 ∨ oq = 19 ∨ oq = 20 ∨ oq = 21 ∨ oq = 22 ∨ oq = 23 ∨ oq = 24 ∨ oq = 25 ∨ oq = 26 ∨ oq = 27 ∨ oq = 28 ∨ oq = 29 ∨ oq = 30 ∨ oq = 31 ∨ oq = 32 ∨ oq = 33 ∨ oq = 34 ∨ oq = 35 by omega) with e | e | e | e | e | e | e | e | e | e | e | e | e | e | e | e | e | e | e | e <;> subst e
      · exact cq_a16 hX0 hv ha hM H eP hqn hq eO es r0
      · exact cq_a17 hX0 hv ha hM H eP hqn hq eO es r0
      · exact cq_a18 hX0 hv ha hM H eP hqn hq eO es r0
      · exact cq_a19 hX0 hv ha hM H eP hqn hq eO es r0
      · obtain ⟨m, m1, m2⟩ := p20 rfl
        exact cq_m20 hX0 hv ha hM H eP hqn hq eO m2 m1 es r0
      · exact cq_p21 hX0 hv ha hM H eP hqn hq eO es r0
      · exact cq_a22 hX0 hv ha hM H eP hqn hq eO es r0
      · exact cq_p23 hX0 hv ha hM H eP hqn hq eO es r0
      · exact cq_p24 hX0 hv ha hM H eP hqn hq eO es r0
      · exact cq_p25 hX0 hv ha hM H eP hqn hq eO es r0
      · exact cq_p26 hX0 hv ha hM H eP hqn hq eO es r0
      · exact cq_p27 hX0 hv ha hM H eP hqn hq eO es r0
      · exact cq_p28 hX0 hv ha hM H eP hqn hq eO es r0
      · exact cq_p29 hX0 hv ha hM H eP hqn hq eO es r0
      · by_cases hk : κ < 2
        · exact cq_n30 hX0 hv ha hM H eP hqn hq eO (fun s' κ' a b c d => by have := huni s' κ' a b c d; omega) es r0
        · exact cq_p30 hX0 hv ha hM H eP hqn hq eO (fun s' κ' a b c d => by have := huni s' κ' a b c d; omega) es r0
      · by_cases hk : κ < 2
        · exact cq_p31 hX0 hv ha hM H eP hqn hq eO (fun s' κ' a b c d => by have := huni s' κ' a b c d; omega) es r0
        · exact cq_n31 hX0 hv ha hM H eP hqn hq eO (fun s' κ' a b c d => by have := huni s' κ' a b c d; omega) es r0
      · exact cq_a32 hX0 hv ha hM H eP hqn hq eO es r0
      · obtain ⟨m, m1, m2⟩ := p33 rfl
        exact cq_p33 hX0 hv ha hM H eP hqn hq eO m2 m1 es r0
      · by_cases hk : κ < 2
        · exact cq_p342 hX0 hv ha hM H eP hqn hq eO (fun s' κ' a b c d => by have := huni s' κ' a b c d; omega) es r0
        · exact cq_p341 hX0 hv ha hM H eP hqn hq eO (fun s' κ' a b c d => by have := huni s' κ' a b c d; omega) es r0
      · obtain ⟨m, m1, m2⟩ := p35 rfl
        exact cq_p35 hX0 hv ha hM H eP hqn hq eO m2 m1 es r0
    · by_cases e16 : oq = 16
      · subst e16; exact cq_e16 hX0 hv ha hM H eP hqn hq eO es r0
      by_cases e35 : oq = 35
      · subst e35; exact cq_e35 hX0 hv ha hM H eP hqn hq eO es r0
      by_cases e22 : oq = 22
      · subst e22; exact cq_e22 hX0 hv ha hM H eP hqn hq eO es r0
      by_cases e32 : oq = 32 ∧ fG p = 0
      · obtain ⟨e32, eG0⟩ := e32
        subst e32; exact cq_e32 hX0 hv ha hM H eP hqn hq eO (Or.inl es) eG0 r0
      exact cq_end0 hX0 hv ha hM H eP hqn hq (by omega) (by omega) e22 eO (Or.inl es) r0 e32
    · by_cases e1732 : oq = 17 ∨ oq = 32
      · by_cases e32 : oq = 32 ∧ fG p = 0
        · obtain ⟨e32, eG0⟩ := e32
          subst e32; exact cq_e32 hX0 hv ha hM H eP hqn hq eO (Or.inr es) eG0 r0
        exact cq_end0 hX0 hv ha hM H eP hqn hq (by omega) (by omega) (by omega) eO (Or.inr ⟨es, e1732⟩) r0 e32
      · exact cq_err hX0 hv ha hM H eP hqn hq p1 h16 eO es (fun w => e1732 w.2)
  · rw [hfo] at r21 rx ry
    have nr : ¬ fR g = 0 := fun w => r_ne w r1
    rcases es with es | es | es
    · by_cases hb : oq = 21 ∨ oq = 22 ∨ oq = 32 ∨ oq = 33 ∨ oq = 34
      · exact cq_b hX0 hv ha hM H eP hqn hq eO hb es r1
      · rcases (show oq = 23 ∨ oq = 24 ∨ oq = 25 ∨ oq = 26 ∨ oq = 27 ∨ oq = 28 ∨ oq = 29 ∨ oq = 30 ∨ oq = 31 ∨ oq = 35 by omega) with e | e | e | e | e | e | e | e | e | e <;> subst e
        · exact cq_m23 hX0 hv ha hM H eP hqn hq eO es r1
        · exact cq_m24 hX0 hv ha hM H eP hqn hq eO es r1
        · exact cq_m25 hX0 hv ha hM H eP hqn hq eO es r1
        · exact cq_m26 hX0 hv ha hM H eP hqn hq eO es r1
        · exact cq_m27 hX0 hv ha hM H eP hqn hq eO es r1
        · exact cq_m28 hX0 hv ha hM H eP hqn hq eO es r1
        · exact cq_m29 hX0 hv ha hM H eP hqn hq eO es r1
        · exact cq_m30 hX0 hv ha hM H eP hqn hq eO es r1
        · exact cq_m31 hX0 hv ha hM H eP hqn hq eO es r1
        · exact cq_b35 hX0 hv ha hM H eP hqn hq eO es r1
    · by_cases e22 : oq = 22 ∨ oq = 32
      · exact cq_end1 hX0 hv ha hM H eP hqn hq e22 eO es r1
      by_cases e35 : oq = 35
      · subst e35
        rcases r1 with r1 | r1
        · exact cq_f35 hX0 hv ha hM H eP hqn hq eO es r1
        · exact cq_foldback hX0 hv ha hM H eP hqn hq eO es r1
      exact cq_back hX0 hv ha hM H eP hqn hq r21 (by omega) (by omega) (by omega) eO es r1 (rx e35)
    · exact cq_err hX0 hv ha hM H eP hqn hq p1 (by omega) eO es (fun w => nr w.1)
/-! ===== the loop ===== -/
theorem cq_loop {T : List Nat → Option vv_L} {nf bo np : Nat} {K0 N0 Z0 D0 I0 W0 P0 : Nat → Int32} {post : SX → Prop} {xst xow xin xpa xfi xkn : Int32} {vS pO pX pI fS : Nat → Int32} (hfl : ∀ q, q < np → ∃ yk, fl_p pO pX pI yk q)
    (HE : ∀ (xfr xno xsi xan xen xco xrm xac : Int32) (K N Z D Im W P fP fI fU fR fO fA fH fG fN aS qL qR qP : Nat → Int32), rm_E T nf bo np K0 N0 Z0 D0 I0 W0 P0 (xst, xow, xin, xpa, xfi, xfr, xno, xsi, xan, xkn, xen, xco, xrm, xac, K, N, Z, D, Im, W, P, vS, pO, pX, pI, fS, fP, fI, fU, fR, fO, fA, fH, fG, fN, aS, qL, qR, qP) → post (xst, xow, xin, xpa, xfi, xfr, xno, xsi, xan, xkn, xen, xco, xrm, xac, K, N, Z, D, Im, W, P, vS, pO, pX, pI, fS, fP, fI, fU, fR, fO, fA, fH, fG, fN, aS, qL, qR, qP)) : ∀ m st, 1000001 - st ≤ m → ∀ (xfr xno xsi xan xen xco xrm xac : Int32) (K N Z D Im W P fP fI fU fR fO fA fH fG fN aS qL qR qP : Nat → Int32), rm_I T nf bo np K0 N0 Z0 D0 I0 W0 P0 st (xst, xow, xin, xpa, xfi, xfr, xno, xsi, xan, xkn, xen, xco, xrm, xac, K, N, Z, D, Im, W, P, vS, pO, pX, pI, fS, fP, fI, fU, fR, fO, fA, fH, fG, fN, aS, qL, qR, qP) → wX_workOut_68 post (1000001 - st) (nI st) xst xow xin xpa xfi xfr xno xsi xan xkn xen xco xrm xac K N Z D Im W P vS pO pX pI fS fP fI fU fR fO fA fH fG fN aS qL qR qP := by
  intro m
  induction m with
  | zero =>
    intro st hm xfr xno xsi xan xen xco xrm xac K N Z D Im W P fP fI fU fR fO fA fH fG fN aS qL qR qP hI
    obtain ⟨V, al, g, pa, n, c, rm, a, hX, _⟩ := hI
    obtain ⟨_, _, hst, _⟩ := mx_f hX
    omega
  | succ m ih =>
    intro st hm xfr xno xsi xan xen xco xrm xac K N Z D Im W P fP fI fU fR fO fA fH fG fN aS qL qR qP hI
    obtain ⟨V, al, g, pa, n, c, rm, a, hX, hv, ha, hM⟩ := hI
    have hst := (mx_f hX).2.2.1
    have H : lp_G T nf bo np K0 N0 Z0 D0 I0 W0 P0 post xst xow xin xpa xfi xkn vS pO pX pI fS st := ⟨hfl, fun st' h xfr xno xsi xan xen xco xrm xac K N Z D Im W P fP fI fU fR fO fA fH fG fN aS qL qR qP hi => ih st' (by omega) xfr xno xsi xan xen xco xrm xac K N Z D Im W P fP fI fU fR fO fA fH fG fN aS qL qR qP hi, fun st' h xfr xno xsi xan xen xco xrm xac K N Z D Im W P fP fI fU fR fO fA fH fG fN aS qL qR qP he => xs_end h he.1 (HE xfr xno xsi xan xen xco xrm xac K N Z D Im W P fP fI fU fR fO fA fH fG fN aS qL qR qP he)⟩
    have hs := hX.2.1
    by_cases e0 : xsi = 0
    · exact cq_ask hX hv ha hM H e0
    · have es : xsi = 1 ∨ xsi = 2 ∨ xsi = 3 := hs.elim (fun w => absurd w e0) id
      cases pa with
      | nil => exact cq_root hX hv ha hM H es
      | cons p pa' => exact cq_hear hX hv ha hM H es
