/-! ===== asked, and through ===== -/
/-- the kinds as Y numbers them -/
theorem kk_lt {oq : Nat} (h : oq ≤ 35) : fl_kk oq < 60 ∧ (oq < 16 → fl_kk oq = oq) ∧ (16 ≤ oq → 20 ≤ fl_kk oq) := by
  unfold fl_kk
  refine ⟨by split <;> (try split) <;> (try split) <;> omega, fun h => by rw [if_pos h], fun h => by rw [if_neg (by omega)]; split <;> (try split) <;> omega⟩
theorem cs_through {T : List Nat → Option vv_L} {nf bo np : Nat} {K0 N0 Z0 D0 I0 W0 P0 : Nat → Int32} {xst xow xin xpa xfi xfr xno xsi xan xkn xen xco xrm xac : Int32} {K N Z D Im W P vS pO pX pI fS fP fI fU fR fO fA fH fG fN aS qL qR qP : Nat → Int32} {post : SX → Prop} {st : Nat} {V al : Nat → Prop} {g : Nat} {pa : List Nat} {n c rm a : Nat}
    (H : ∀ st', st < st' → ∀ (xfr xno xsi xan xen xco xrm xac : Int32) (K N Z D Im W P fP fI fU fR fO fA fH fG fN aS qL qR qP : Nat → Int32), rn_I T nf bo np K0 N0 Z0 D0 I0 W0 P0 st' (xst, xow, xin, xpa, xfi, xfr, xno, xsi, xan, xkn, xen, xco, xrm, xac, K, N, Z, D, Im, W, P, vS, pO, pX, pI, fS, fP, fI, fU, fR, fO, fA, fH, fG, fN, aS, qL, qR, qP) → wX_workOut_68 post (1000001 - st') (nI st') xst xow xin xpa xfi xfr xno xsi xan xkn xen xco xrm xac K N Z D Im W P vS pO pX pI fS fP fI fU fR fO fA fH fG fN aS qL qR qP)
    (hX : md_X V al g pa bo np n c rm a st xfr xno xsi xen xco xrm xac K N Z D Im W P K0 N0 Z0 D0 I0 W0 P0 pO pX fP fU fR fO fA fH fG)
    (hM : ∀ (mk0 pd0 : Nat) (v0 : SY), kn_F T np nf pO pX pI fS mk0 pd0 v0 → rn_M V pa g np n c rm a st xsi xan K N Z D W P pO pX pI fP fI fO fA fH fG fN aS mk0 pd0 v0)
    (es : xsi = 0) {q oq gv x : Nat} (eP : fP g = nI q) (hq : q < 40) (hqn : q < np) (eO : pO q = nI oq) (ho : oq ≤ 35) (n7 : oq ≠ 7) (n15 : oq ≠ 15) (eG : fG g = nI gv) (hgv : gv ≤ 1000000)
    (ht : (oq = 18 ∧ pX q = nI x ∧ x < 10 ∧ x ≤ gv) ∨ ((oq < 16 ∨ oq = 16 ∨ oq = 35) ∧ 0 < gv)) : wX_workOut_68 post (1000001 - st) (nI st) xst xow xin xpa xfi xfr xno xsi xan xkn xen xco xrm xac K N Z D Im W P vS pO pX pI fS fP fI fU fR fO fA fH fG fN aS qL qR qP := by
  subst es
  obtain ⟨hg, hn, hst, hlen, _⟩ := mx_f hX
  have hfo : fr_o pO fP g = oq := by
    unfold fr_o
    rw [eP, nI_clamp (by omega), eO, nI_clamp (by omega)]
  have hX0 := hX
  obtain ⟨⟨x1, x2, x3, x4, x5, x6, x7, x8, x9, x10⟩, hs, hh, hb, hf, hr, hG, hpot⟩ := hX
  refine xs_ask (by omega) x3 rfl (xa_through (x := x) x2 (by omega) eP hq eO ho n7 n15 eG (by omega) ht (rn_K_i (H (st + 1) (by omega) _ _ _ _ _ _ _ _ _ _ _ _ _ _ _ _ _ _ _ _ _ _ _ _ _ _ _ _ ?_)))
  refine ⟨V, al, g, pa, n, c, rm, a, ⟨⟨x1, x2, x3, x4, x5, x6, x7, x8, x9, x10⟩, Or.inr (Or.inr (Or.inl rfl)), hh, hb, fr_X_m hf (fun w => absurd w (by decide)), hr, fun f hf' => ?_, ?_⟩, fun mk0 pd0 v0 hF => ?_⟩
  · obtain ⟨gv', e1, e2⟩ := hG f hf'
    exact ⟨gv', e1, by omega⟩
  · rw [md_ph_2]
    rw [md_ph_0] at hpot
    omega
  · have hm := hM mk0 pd0 v0 hF
    obtain ⟨yma0, ypo0, yhe0, yvm0, yin0, yfi0, yde0, yap0, yas0, yto0, yan0, yco0, yti0, yna0, yac0, yen0, yic0, o0, l0, kS0, d0, pl0, ys0, yk0, yn0, yp0, yf0, yo0, yi0, yw0, ya0, y10, y20, yK0, yW0, yL0, yq0, nm0, nv0, no0, yA0, lf0, rt0, iK0, iN0⟩ := v0
    obtain ⟨mk, pd, nd, yma, ypo, yap, yas, yto, yan, yco, yti, yna, yac, yen, o, l, kS, d, pl, yo, yi, yw, ya, y1, y2, yK, yW, yL, yq, nm, nv, no, yA, lf, rt, hY, hcF, _⟩ := hm
    obtain ⟨⟨b1, b2, b3, b4, b5, b6, b7, b8, b9, b10, b11⟩, hfl, hen, hhy, hby, hfr, han, hq0, hq1, hz1, hz2, hz3⟩ := hY
    obtain ⟨ea, eq⟩ := hq0 rfl
    obtain ⟨f1, f2, f3, f4, f5⟩ := hfr g hg
    have hfp := hfl q hqn
    obtain ⟨oq', p1, p2, p3, _⟩ := hfp
    have hoo : oq' = oq := (nI_eq (by omega) (by omega)).mp (p2.symm.trans eO)
    subst hoo
    obtain ⟨k1, k2, k3⟩ := kk_lt ho
    have eyo : yo g = nI q := f1.symm.trans eP
    rw [hfo, eP, nI_clamp (show q < 2 ^ 31 by omega)] at f5
    obtain ⟨s1, s2, s3, s4, s5, s6, s7, s8, s9, s10⟩ := f5
    refine ⟨mk, pd, nd, yma, ypo, yap, nI pa.length, 1, 0, yco, yti, yna, yac, yen, o, l, kS, d, pl, yo, yi, yw, ya, y1, y2, yK, yW, yL, yq, nm, nv, no, yA, lf, rt, ⟨⟨b1, b2, b3, b4, b5, b6, b7, b8, b9, b10, b11⟩, hfl, hen, hhy, hby, fun f hf' => ?_, han, fun w => absurd w (by decide), fun _ => ⟨rfl, eq.2⟩, fun w => absurd w (by decide), fun _ => rfl, fun w => absurd w (by decide)⟩, fun w => absurd w (by decide), fun _ => ?_⟩
    · obtain ⟨t1, t2, t3, t4, t5⟩ := hfr f hf'
      exact ⟨t1, t2, t3, t4, fr_S_up (fun _ _ w => w) (fun _ w => w) (fun _ _ w => w) (Nat.le_succ _) t5⟩
    · refine cr_FT (hcF rfl) b9 ea (by omega) eq.1 b5 rfl (fun Q hQ => ?_)
      have hgi : 0 < gv → ¬ fG g = 0 := fun w => by rw [eG]; exact nI_ne0 w (by omega)
      rcases ht with ⟨e18, t2, t3, t4⟩ | ⟨hc, h0⟩
      · subst e18
        obtain ⟨gg, mm, r1, r2, r3, r4, r5⟩ := s6 rfl
        have e1 : gg = gv := (nI_eq (by omega) (by omega)).mp (r1.symm.trans eG)
        have e2 : mm = x := (nI_eq (by omega) (by omega)).mp (r3.symm.trans t2)
        refine ys_tell1 (by omega) eyo hq p3 (by decide) (by decide) ea (Or.inr (Or.inl ⟨by decide, ?_⟩)) hQ
        rw [r2, b10, t2, e1]
        congr 1
        omega
      · rcases Nat.lt_or_ge oq' 16 with h16 | h16
        · have hk := k2 h16
          rw [hk] at p3
          obtain ⟨_, _, u3, u4⟩ := s1 h16
          refine ys_end (by omega) eyo hq p3 h16 n7 n15 ?_ ea hQ
          by_cases e8 : oq' = 8
          · exact Or.inl e8
          · refine Or.inr ?_
            rw [← u4 n7 e8 n15]
            rcases u3 with w | w | w | w
            · exact absurd w (hgi h0)
            · exact w
            · exact absurd w n7
            · exact absurd w n15
        · rcases hc with w | w | w
          · omega
          · subst w
            refine ys_tell1 (by omega) eyo hq p3 (by decide) (by decide) ea (Or.inl ⟨by decide, ?_⟩) hQ
            rcases s5 rfl with ⟨_, w, _⟩ | ⟨_, _, aa, w, w2⟩
            · exact absurd w (hgi h0)
            · rw [w]
              exact nI_ne0 (by omega) (by omega)
          · subst w
            refine ys_tell1 (by omega) eyo hq p3 (by decide) (by decide) ea (Or.inr (Or.inr ⟨by decide, ?_⟩)) hQ
            rcases (s10 rfl).2 with ⟨_, _, w, _⟩ | ⟨_, _, w, _⟩ | ⟨_, _, w, _⟩ | ⟨_, _, _, w, _⟩ | ⟨_, _, w⟩
            · exact absurd w (hgi h0)
            · exact absurd w (hgi h0)
            · exact absurd w (hgi h0)
            · exact absurd w (hgi h0)
            · exact w
