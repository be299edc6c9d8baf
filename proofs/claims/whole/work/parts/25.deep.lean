/-! ===== deep: X ===== -/
section
variable {V : Nat → Prop} {K N Z D Im W P : Nat → Int32}
theorem dp_len (hx : vv_ox V K N Z D Im W P) : ∀ (p : List Nat) s e, V s → D s = nI e → e ≤ 4 → dp_ok Z P p s → p.length ≤ e ∧ ∀ k, k ∈ p → k < 10
  | [], _, _, _, _, _, _ => ⟨by simp, fun k hk => absurd hk (by simp)⟩
  | i :: p, s, e, hs, he, h4, hp => by
    obtain ⟨z, e1, h10, h4', ez, ee, _, hc⟩ := oo_slot hx hs
    have : e1 = e := (nI_eq (by omega) (by omega)).mp (ee.symm.trans he)
    obtain ⟨h1, h2⟩ := hp
    rw [ez, nI_clamp (by omega)] at h1
    obtain ⟨c, e', c1, c2, c3, c4, c5, c6⟩ := hc i h1
    rw [c2] at h2
    obtain ⟨l1, l2⟩ := dp_len hx p c e' c4 c5 (by omega) h2
    refine ⟨by rw [List.length_cons]; omega, fun k hk => ?_⟩
    rcases List.mem_cons.mp hk with w | w
    · omega
    · exact l2 k w
end
theorem xm_within {xst xow xin xpa xfi xfr xno xsi xan xkn xen xco xrm xac : Int32} {K N Z D Im W P vS pO pX pI fS fP fI fU fR fO fA fH fG fN aS qL qR qP : Nat → Int32} {V : Nat → Prop} {post : Int32 → Prop} (hx : vv_ox V K N Z D Im W P) {p0 : List Nat} {s0 : Nat} (h0 : V s0) (hok : dp_ok Z P p0 s0) (hlen : p0.length ≤ 4) (hp : post (nI (dp_at P p0 s0))) : wpX_within post (xst, xow, xin, xpa, xfi, xfr, xno, xsi, xan, xkn, xen, xco, xrm, xac, K, N, Z, D, Im, W, P, vS, pO, pX, pI, fS, fP, fI, fU, fR, fO, fA, fH, fG, fN, aS, qL, qR, qP) (nI s0) (nI (dp_ix W P p0 s0)) := by
  have key : ∀ (p : List Nat) (s L : Nat), V s → dp_ok Z P p s → L + p.length ≤ 4 → post (nI (dp_at P p s)) → wX_within_8 post xst xow xin xpa xfi xfr xno xsi xan xkn xen xco xrm xac K N Z D Im W P vS pO pX pI fS fP fI fU fR fO fA fH fG fN aS qL qR qP (p.length + 1) (nI s) (nI (dp_ix W P p s)) (nI L) := by
    intro p
    induction p with
    | nil =>
      intro s L hs _ hL hq
      unfold wX_within_8
      exact br_c (fun _ => hq) (fun _ => br_t (by show nI 0 ≤ 0; decide) hq)
    | cons i p ih =>
      intro s L hs hok hL hq
      obtain ⟨z, e1, h10, h4', ez, ee, _, hc⟩ := oo_slot hx hs
      obtain ⟨o1, o2⟩ := hok
      rw [ez, nI_clamp (by omega)] at o1
      obtain ⟨s6, _⟩ := hx s hs
      rw [List.length_cons] at hL
      -- the children that are passed
      have hw : ∀ f, f < z → ∃ c w, dp_ch P s f = c ∧ P (s * 10 + f) = nI c ∧ c < 653 ∧ V c ∧ W c = nI w ∧ w ≤ 23332 ∧ dp_w W P s f = w := by
        intro f hf
        obtain ⟨c, e', c1, c2, c3, c4, c5, c6⟩ := hc f hf
        obtain ⟨w, w1, _, w3⟩ := (vv_IW4 hx c4).2
        exact ⟨c, w, c2, c1, c3, c4, w1, w3, by rw [dp_w, c2, w1, nI_clamp (by omega)]⟩
      obtain ⟨ci, wi, a1, a2, a3, a4, a5, a6, a7⟩ := hw i o1
      have hix : dp_ix W P p (dp_ch P s i) < wi := by
        have := dp_ix_lt hx p (dp_ch P s i) (by rw [a1]; exact a4) o2
        rw [a1, a5, nI_clamp (by omega)] at this
        rw [a1]
        exact this
      have hbd : vv_sm (dp_w W P s) i ≤ i * 23332 := vv_sm_le i (fun f hf => by
        obtain ⟨c, w, _, _, _, _, _, b1, b2⟩ := hw f (by omega)
        rw [b2]; exact b1)
      have hbd2 : i * 23332 ≤ 10 * 23332 := Nat.mul_le_mul_right _ (by omega)
      have inner : ∀ r f, f + r = i → wX_within_47 post (wX_within_8 post xst xow xin xpa xfi xfr xno xsi xan xkn xen xco xrm xac K N Z D Im W P vS pO pX pI fS fP fI fU fR fO fA fH fG fN aS qL qR qP (p.length + 1)) (nI L) (nI (s * 10)) (nI z) xst xow xin xpa xfi xfr xno xsi xan xkn xen xco xrm xac K N Z D Im W P vS pO pX pI fS fP fI fU fR fO fA fH fG fN aS qL qR qP (r + 1) (nI (dp_ch P s f)) (nI (vv_sm (dp_w W P s) i - vv_sm (dp_w W P s) f + dp_ix W P p (dp_ch P s i))) (nI (f + 1)) := by
        intro r
        induction r with
        | zero =>
          intro f hf
          have hf' : f = i := by omega
          subst hf'
          have nxt := ih (dp_ch P s f) (L + 1) (by rw [a1]; exact a4) o2 (by omega) hq
          rw [Nat.sub_self, Nat.zero_add (dp_ix W P p (dp_ch P s f))]
          unfold wX_within_47
          refine pk_le z (f + 1) (fun _ => nm_r (nI_1 L) nxt) (fun _ => ?_)
          rw [a1] at hix nxt ⊢
          refine ⟨vp_in_nI a3 (by omega), ?_⟩
          rw [nI_clamp (show ci < 2 ^ 31 by omega), a5]
          exact br_t (nI_lt hix (by omega)) (nm_r (nI_1 L) nxt)
        | succ r ihr =>
          intro f hf
          obtain ⟨c, w, b1, b2, b3, b4, b5, b6, b7⟩ := hw f (by omega)
          obtain ⟨c', w', b1', b2', _⟩ := hw (f + 1) (by omega)
          have hup := vv_sm_up (f := dp_w W P s) (i := f) (z := i) (by omega)
          have hs1 : vv_sm (dp_w W P s) (f + 1) = vv_sm (dp_w W P s) f + w := by rw [vv_sm, b7]
          rw [b7] at hup
          unfold wX_within_47
          refine br_f (nI_ge (by omega) (by omega)) ?_
          rw [b1]
          refine ⟨vp_in_nI b3 (by omega), ?_⟩
          rw [nI_clamp (show c < 2 ^ 31 by omega), b5, pk_sub (show w ≤ vv_sm (dp_w W P s) i - vv_sm (dp_w W P s) f + dp_ix W P p (dp_ch P s i) by omega), nI_add, nI_clamp (show s * 10 + (f + 1) < 2 ^ 31 by omega), b2']
          refine br_f (nI_nlt (by omega) (by omega)) ⟨vp_in_nI b3 (by omega), nm_e ⟨vp_in_nI (by omega) (by omega), nm_e (nm_r (nI_1 (f + 1)) ?_)⟩⟩
          have := ihr (f + 1) (by omega)
          rw [b1', hs1, show vv_sm (dp_w W P s) i - (vv_sm (dp_w W P s) f + w) + dp_ix W P p (dp_ch P s i) = vv_sm (dp_w W P s) i - vv_sm (dp_w W P s) f + dp_ix W P p (dp_ch P s i) - w by omega] at this
          exact this
      have h00 := inner i 0 (by omega)
      obtain ⟨c0, w0, z1, z2, z3, _⟩ := hw 0 (by omega)
      rw [z1, show vv_sm (dp_w W P s) 0 = 0 from rfl, Nat.sub_zero] at h00
      unfold wX_within_8
      have e0 : dp_ix W P (i :: p) s = vv_sm (dp_w W P s) i + dp_ix W P p (dp_ch P s i) + 1 := by rw [dp_ix]; omega
      rw [e0]
      refine br_f (nI_ge (b := 4) (by omega) (by omega)) (br_f (nI_nle (by omega) (by omega)) (nm_r (pk_m1 _) (nm_r (show nI s * 10 = nI (s * 10) from pk_mul s 10) ⟨vp_in_nI s6 (by omega), ?_⟩)))
      rw [nI_clamp (show s < 2 ^ 31 by omega), ez, nI_clamp (show s * 10 < 2 ^ 31 by omega), show s * 10 = s * 10 + 0 from rfl, z2]
      exact nm_e ⟨vp_in_nI (by omega) (by omega), nm_e ⟨_, h00⟩⟩
  unfold wpX_within
  dsimp only
  exact ⟨_, key p0 s0 0 h0 hok (by omega) hp⟩
