/-! ===== a value more: both heaps grow ===== -/
section
variable {V V' : Nat → Prop} {K N Z D Im W P K' N' Z' D' Im' W' P' : Nat → Int32} {o l kS d o' l' kS' d' : Nat → Int32} {pl pl' : Nat → Int64} {mk pd mk' pd' rm rm' bo hs : Nat}
/-- X's heap changes at slot hs alone, which may become valid -/
def gr_X (V V' : Nat → Prop) (hs : Nat) (K N Z D Im W P K' N' Z' D' Im' W' P' : Nat → Int32) : Prop :=
  ¬ V hs ∧ 53 ≤ hs ∧ (∀ s, V s → V' s) ∧ (∀ s, V' s → V s ∨ s = hs) ∧ vv_ox V' K' N' Z' D' Im' W' P' ∧
  ∀ t, t ≠ hs → K' t = K t ∧ N' t = N t ∧ Z' t = Z t ∧ D' t = D t ∧ Im' t = Im t ∧ W' t = W t ∧ ∀ i, i < 10 → P' (t * 10 + i) = P (t * 10 + i)
theorem gr_ne (h : gr_X V V' hs K N Z D Im W P K' N' Z' D' Im' W' P') {s : Nat} (hs' : V s) : s ≠ hs := fun e => h.1 (by rw [← e]; exact hs')
theorem gr_eq (h : gr_X V V' hs K N Z D Im W P K' N' Z' D' Im' W' P') : vv_eq V K N Z D Im W P K' N' Z' D' Im' W' P' := fun s hs' => h.2.2.2.2.2 s (gr_ne h hs')
theorem gr_hx {K0 N0 Z0 D0 I0 W0 P0 : Nat → Int32} (h : gr_X V V' hs K N Z D Im W P K' N' Z' D' Im' W' P') (hh : md_hx V bo rm K N Z D Im W P K0 N0 Z0 D0 I0 W0 P0) (hr : rm ≤ rm') (hs' : V' hs → hs < 53 + rm') : md_hx V' bo rm' K' N' Z' D' Im' W' P' K0 N0 Z0 D0 I0 W0 P0 := by
  obtain ⟨k1, k2, k3, k4, k5⟩ := hh
  have h0 := h
  obtain ⟨h1, h2, h3, h4, h5, h6⟩ := h
  refine ⟨h5, fun s hs2 => ?_, k3, rl_b_up k4 h3 (fun s hs2 => ⟨(gr_eq h0 s hs2).1, (gr_eq h0 s hs2).2.1⟩), fun s hs2 => ?_⟩
  · rcases h4 s hs2 with z | z
    · have := k2 s z
      exact ⟨this.1, by omega⟩
    · subst z
      exact ⟨Or.inr h2, hs' hs2⟩
  · obtain ⟨f1, f2, f3, f4, f5, f6, f7⟩ := k5 s hs2
    have hs3 : s < 53 := hs2
    obtain ⟨e1, e2, e3, e4, e5, e6, e7⟩ := h6 s (by omega)
    exact ⟨e1.trans f1, e2.trans f2, e3.trans f3, e4.trans f4, e5.trans f5, e6.trans f6, fun i hi => (e7 i hi).trans (f7 i hi)⟩
/-- the arrays that 'all' fills stay as they are, if hs is none of them -/
theorem gr_bx {n : Nat} {pO fP fA fH fG : Nat → Int32} (h : gr_X V V' hs K N Z D Im W P K' N' Z' D' Im' W' P') (hb : md_bx V rm n pO fP fA fH fG K N Z D P) (hr : rm ≤ rm')
    (hne : ∀ f, f < n → fr_o pO fP f = 16 → fA f ≠ -1 → fG f = 0 → fH f ≠ nI hs) : md_bx V' rm' n pO fP fA fH fG K' N' Z' D' P' := by
  have h0 := h
  obtain ⟨h1, h2, h3, h4, h5, h6⟩ := h
  obtain ⟨b1, b2⟩ := hb
  refine ⟨fun f hf o16 hA hG => ?_, b2⟩
  obtain ⟨x, z, a1, a2, a3, a4, a5, a6, a7, a8, a9⟩ := b1 f hf o16 hA hG
  have hx : x ≠ hs := fun e => hne f hf o16 hA hG (by rw [a1, e])
  obtain ⟨e1, e2, e3, e4, e5, e6, e7⟩ := h6 x hx
  refine ⟨x, z, a1, a2, by omega, fun w => (h4 x w).elim a4 hx, e1.trans a5, e2.trans a6, e3.trans a7, a8, fun i hi => ?_⟩
  obtain ⟨c, e, c1, c2, c3, c4⟩ := a9 i hi
  exact ⟨c, e, (e7 i (by omega)).trans c1, h3 c c2, (gr_eq h0 c c2).2.2.2.1.trans c3, c4⟩
/-- Y's heap grows -/
def gr_Y (mk pd mk' pd' : Nat) (o l kS d o' l' kS' d' : Nat → Int32) (pl pl' : Nat → Int64) : Prop :=
  mk ≤ mk' ∧ pd ≤ pd' ∧ vv_cy mk' pd' o' l' pl' ∧ (∀ j, j < mk → o' j = o j ∧ l' j = l j ∧ kS' j = kS j ∧ d' j = d j) ∧ ∀ i, i < pd → pl' i = pl i
theorem gr_R (hx : vv_ox V K N Z D Im W P) (hy : vv_cy mk pd o l pl) (h : gr_X V V' hs K N Z D Im W P K' N' Z' D' Im' W' P') (g : gr_Y mk pd mk' pd' o l kS d o' l' kS' d' pl pl') : ∀ s w, vv_R V K N Z D P mk o l kS d pl s w → vv_R V' K' N' Z' D' P' mk' o' l' kS' d' pl' s w := by
  obtain ⟨g1, g2, g3, g4, g5⟩ := g
  intro s w hR
  refine vv_R_up hx hy (fun s hs' => ⟨h.2.2.1 s hs', vv_eq_x (gr_eq h) s hs'⟩) g1 (fun j hj => ?_) hR
  obtain ⟨e1, e2, e3, e4⟩ := g4 j hj
  exact ⟨e1, e2, e3, e4, fun a b _ _ _ hab i hi => g5 _ (by omega)⟩
theorem gr_ea (h : gr_X V V' hs K N Z D Im W P K' N' Z' D' Im' W' P') {s : Int32} {w : Int64} (hR : vv_R V K N Z D P mk o l kS d pl s w) (g : Nat) (he : md_ea Z s g) : md_ea Z' s g := by
  obtain ⟨n, e1, e2, e3, _⟩ := hR
  unfold md_ea at he ⊢
  have en : s.toNatClampNeg = n := by rw [e1, nI_clamp (by omega)]
  rw [en] at he ⊢
  rw [(gr_eq h n e3).2.2.1]
  exact he
theorem gr_path (hx : vv_ox V K N Z D Im W P) (h : gr_X V V' hs K N Z D Im W P K' N' Z' D' Im' W' P') : ∀ (p : List Nat) (s : Nat), V s → dp_ok Z P p s → dp_ok Z' P' p s ∧ dp_ix W' P' p s = dp_ix W P p s
  | [], _, _, _ => ⟨trivial, rfl⟩
  | i :: p, s, hs', hp => by
    obtain ⟨z, hz, ez, hc⟩ := vv_ox_z hx hs'
    obtain ⟨_, _, e3, _, _, _, e7⟩ := gr_eq h s hs'
    obtain ⟨h1, h2⟩ := hp
    have h1' := h1
    rw [ez, nI_clamp (by omega)] at h1'
    obtain ⟨c, c1, c2, c3⟩ := hc i h1'
    have ec : dp_ch P s i = c := by rw [dp_ch, c1, nI_clamp (by omega)]
    have ec' : dp_ch P' s i = c := by rw [dp_ch, e7 i (by omega), c1, nI_clamp (by omega)]
    rw [ec] at h2
    obtain ⟨r1, r2⟩ := gr_path hx h p c c3 h2
    refine ⟨⟨by rw [e3]; exact h1, by rw [ec']; exact r1⟩, ?_⟩
    rw [dp_ix, dp_ix, ec, ec', r2]
    congr 2
    apply vv_sm_c
    intro j hj
    obtain ⟨cj, j1, j2, j3⟩ := hc j (by omega)
    unfold dp_w dp_ch
    rw [e7 j (by omega), j1, nI_clamp (by omega), (gr_eq h cj j3).2.2.2.2.2.1]
theorem gr_dp (hx : vv_ox V K N Z D Im W P) (h : gr_X V V' hs K N Z D Im W P K' N' Z' D' Im' W' P') {s : Int32} {w : Int64} (hR : vv_R V K N Z D P mk o l kS d pl s w) (g way : Nat) (he : md_dp Z W P s g way) : md_dp Z' W' P' s g way := by
  obtain ⟨n, e1, e2, e3, _⟩ := hR
  obtain ⟨p, p1, p2, p3, p4⟩ := he
  have en : s.toNatClampNeg = n := by rw [e1, nI_clamp (by omega)]
  rw [en] at p3 p4
  obtain ⟨r1, r2⟩ := gr_path hx h p n e3 p3
  refine ⟨p, p1, p2, ?_, ?_⟩
  · rw [en]; exact r1
  · rw [en, r2]; exact p4
theorem gr_hy {mk0 pd0 : Nat} {o0 l0 k0 d0 : Nat → Int32} {pl0 : Nat → Int64} (g : gr_Y mk pd mk' pd' o l kS d o' l' kS' d' pl pl') (hh : md_hy rm mk pd mk0 pd0 o l kS d pl o0 l0 k0 d0 pl0) (hm : mk' ≤ 40 + rm') (hp : pd' ≤ 400 + 10 * rm') : md_hy rm' mk' pd' mk0 pd0 o' l' kS' d' pl' o0 l0 k0 d0 pl0 := by
  obtain ⟨g1, g2, g3, g4, g5⟩ := g
  obtain ⟨c1, c2, c3, c4, c5, c6, c7⟩ := hh
  refine ⟨g3, by omega, hm, by omega, hp, fun j hj => ?_, fun i hi => (g5 i (by omega)).trans (c7 i hi)⟩
  obtain ⟨e1, e2, e3, e4⟩ := g4 j (by omega)
  obtain ⟨f1, f2, f3, f4⟩ := c6 j hj
  exact ⟨e1.trans f1, e2.trans f2, e3.trans f3, e4.trans f4⟩
/-- the cells that 'all' has taken, when a composite comes behind them -/
theorem gr_by {n pd0 : Nat} {pO fP fA fH fG ya yW : Nat → Int32} {R R' : Int32 → Int64 → Prop} (h : gr_X V V' hs K N Z D Im W P K' N' Z' D' Im' W' P') (g : gr_Y mk pd mk' pd' o l kS d o' l' kS' d' pl pl') (hRR : ∀ s w, R s w → R' s w) (hb : md_by R n mk pd pd0 pO fP fA fH fG Z P o l ya yW pl) (hcy : vv_cy mk pd o l pl)
    (hH : ∀ f, f < n → fr_o pO fP f = 16 → fA f ≠ -1 → fG f = 0 → ∃ x, fH f = nI x ∧ x < 653 ∧ x ≠ hs) (hnew : ∀ j x, mk ≤ j → j < mk' → o' j = nI x → x < 2 ^ 31 → pd ≤ x) : md_by R' n mk' pd' pd0 pO fP fA fH fG Z' P' o' l' ya yW pl' := by
  obtain ⟨g1, g2, g3, g4, g5⟩ := g
  obtain ⟨b1, b2⟩ := hb
  refine ⟨fun f hf o16 hA => ?_, b2⟩
  obtain ⟨a, w, a1, a2, a3, a4, a5, a6, a7⟩ := b1 f hf o16 hA
  refine ⟨a, w, a1, a2, a3, a4, by omega, fun j x y hj ex ey hy10 hxy => ?_, fun hG => ?_⟩
  · by_cases hjm : j < mk
    · obtain ⟨e1, e2, _⟩ := g4 j hjm
      obtain ⟨a', b', q1, q2, q3, q4, _⟩ := hcy.2.2 j hjm
      have hp8 := hcy.2.1
      have g8 := g3.2.1
      have ea : a' = x := (nI_eq (by omega) (by omega)).mp (q1.symm.trans (e1.symm.trans ex))
      have eb : b' = y := (nI_eq (by omega) (by omega)).mp (q2.symm.trans (e2.symm.trans ey))
      subst ea eb
      exact a6 j a' b' hjm q1 q2 q3 q4
    · have g8 := g3.2.1
      have := hnew j x (by omega) hj ex (by omega)
      exact Or.inr (by omega)
  · obtain ⟨x, x1, x2, x3⟩ := hH f hf o16 hA hG
    obtain ⟨c1, c2⟩ := a7 hG
    rw [x1, nI_clamp (by omega)] at c1 c2 ⊢
    obtain ⟨_, _, e3, _, _, _, e7⟩ := h.2.2.2.2.2 x x3
    refine ⟨e3.trans c1, fun i hi => ?_⟩
    rw [e7 i (by omega), g5 _ (by omega)]
    exact hRR _ _ (c2 i hi)
/-- every frame keeps its state -/
theorem gr_S (hx : vv_ox V K N Z D Im W P) (hy : vv_cy mk pd o l pl) (h : gr_X V V' hs K N Z D Im W P K' N' Z' D' Im' W' P') (g : gr_Y mk pd mk' pd' o l kS d o' l' kS' d' pl pl') {oq st st' : Nat} {x fi gi ac ou he ya y1 y2 yW : Int32} {yi yK yL : Int64} (hst : st ≤ st') (hR : vv_R V K N Z D P mk o l kS d pl fi yi)
    (hS : fr_S (vv_R V K N Z D P mk o l kS d pl) (md_ea Z) (md_dp Z W P) oq x st fi gi ac ou he ya y1 y2 yW yK yL) : fr_S (vv_R V' K' N' Z' D' P' mk' o' l' kS' d' pl') (md_ea Z') (md_dp Z' W' P') oq x st' fi gi ac ou he ya y1 y2 yW yK yL :=
  fr_S_up (gr_R hx hy h g) (fun n w => gr_ea h hR n w) (fun n m w => gr_dp hx h hR n m w) hst hS
end
