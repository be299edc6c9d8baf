/-! ===== a new object ===== -/
def in_ok (t : Nat) (K N Z D Im W : Nat → Int32) : Prop := ∀ s, s < t → (s < 3 → K s = nI s ∧ N s = 0) ∧ (3 ≤ s → K s = nI 3 ∧ N s = nI (s - 3)) ∧ Z s = 0 ∧ D s = 0 ∧ Im s = 1 ∧ W s = 1
theorem in_st {t : Nat} {K N Z D Im W : Nat → Int32} {a b : Int32} (h : in_ok t K N Z D Im W) (h3 : t < 3 → a = nI t ∧ b = 0) (h4 : 3 ≤ t → a = nI 3 ∧ b = nI (t - 3)) : in_ok (t + 1) (upd K t a) (upd N t b) (upd Z t 0) (upd D t 0) (upd Im t 1) (upd W t 1) := by
  intro s hs
  by_cases e : s = t
  · subst e
    rw [pk_us, pk_us, pk_us, pk_us, pk_us, pk_us]
    exact ⟨h3, h4, rfl, rfl, rfl, rfl⟩
  · rw [pk_un e, pk_un e, pk_un e, pk_un e, pk_un e, pk_un e]
    exact h s (by omega)
theorem in_239 {post : SX → Prop} (hp : ∀ K N Z D Im W : Nat → Int32, in_ok 13 K N Z D Im W → post (0, 0, 0, 0, 0, 0, 0, 0, 0, 0, 0, 0, 0, 0, K, N, Z, D, Im, W, (fun _ => 0), (fun _ => 0), (fun _ => 0), (fun _ => 0), (fun _ => 0), (fun _ => 0), (fun _ => 0), (fun _ => 0), (fun _ => 0), (fun _ => 0), (fun _ => 0), (fun _ => 0), (fun _ => 0), (fun _ => 0), (fun _ => 0), (fun _ => 0), (fun _ => 0), (fun _ => 0), (fun _ => 0))) : ∀ r i (K N Z D Im W : Nat → Int32), i + r = 10 → in_ok (3 + i) K N Z D Im W → wX_init_239 post (r + 1) (nI i) 0 0 0 0 0 0 0 0 0 0 0 0 0 0 K N Z D Im W (fun _ => 0) (fun _ => 0) (fun _ => 0) (fun _ => 0) (fun _ => 0) (fun _ => 0) (fun _ => 0) (fun _ => 0) (fun _ => 0) (fun _ => 0) (fun _ => 0) (fun _ => 0) (fun _ => 0) (fun _ => 0) (fun _ => 0) (fun _ => 0) (fun _ => 0) (fun _ => 0) (fun _ => 0) := by
  intro r
  induction r with
  | zero =>
    intro i K N Z D Im W hi h
    have hi' : i = 10 := by omega
    subst hi'
    unfold wX_init_239
    exact br_t (nI_le (a := 10) (Nat.le_refl _) (by omega)) (hp K N Z D Im W h)
  | succ r ih =>
    intro i K N Z D Im W hi h
    unfold wX_init_239
    refine br_f (nI_ge (b := 10) (by omega) (by omega)) ?_
    rw [show (3 : Int32) + nI i = nI (3 + i) from nI_add 3 i]
    refine xm_setPlain (by omega) (nm_r (nI_1 i) ?_)
    have hs := in_st (t := 3 + i) (a := 3) (b := nI i) h (fun z => absurd z (by omega)) (fun _ => ⟨rfl, by rw [show 3 + i - 3 = i by omega]⟩)
    exact ih (i + 1) _ _ _ _ _ _ (by omega) hs
theorem in_219 {post : SX → Prop} (hp : ∀ K N Z D Im W : Nat → Int32, in_ok 13 K N Z D Im W → post (0, 0, 0, 0, 0, 0, 0, 0, 0, 0, 0, 0, 0, 0, K, N, Z, D, Im, W, (fun _ => 0), (fun _ => 0), (fun _ => 0), (fun _ => 0), (fun _ => 0), (fun _ => 0), (fun _ => 0), (fun _ => 0), (fun _ => 0), (fun _ => 0), (fun _ => 0), (fun _ => 0), (fun _ => 0), (fun _ => 0), (fun _ => 0), (fun _ => 0), (fun _ => 0), (fun _ => 0), (fun _ => 0))) : ∀ r i (K N Z D Im W : Nat → Int32), i + r = 3 → in_ok i K N Z D Im W → wX_init_219 post (r + 1) (nI i) 0 0 0 0 0 0 0 0 0 0 0 0 0 0 K N Z D Im W (fun _ => 0) (fun _ => 0) (fun _ => 0) (fun _ => 0) (fun _ => 0) (fun _ => 0) (fun _ => 0) (fun _ => 0) (fun _ => 0) (fun _ => 0) (fun _ => 0) (fun _ => 0) (fun _ => 0) (fun _ => 0) (fun _ => 0) (fun _ => 0) (fun _ => 0) (fun _ => 0) (fun _ => 0) := by
  intro r
  induction r with
  | zero =>
    intro i K N Z D Im W hi h
    have hi' : i = 3 := by omega
    subst hi'
    unfold wX_init_219
    exact br_t (nI_lt (a := 2) (by omega) (by omega)) ⟨_, in_239 hp 10 0 K N Z D Im W rfl h⟩
  | succ r ih =>
    intro i K N Z D Im W hi h
    unfold wX_init_219
    refine br_f (nI_nlt (a := 2) (by omega) (by omega)) ?_
    refine xm_setPlain (by omega) (nm_r (nI_1 i) ?_)
    exact ih (i + 1) _ _ _ _ _ _ (by omega) (in_st h (fun _ => ⟨rfl, rfl⟩) (fun z => absurd z (by omega)))
theorem i_vc0 : wpX_init (fun u => wpY_init (fun v => i_Rel 0 u v)) := by
  unfold wpX_init
  refine ⟨_, in_219 (fun K N Z D Im W h => ?_) 3 0 _ _ _ _ _ _ rfl (fun s hs => absurd hs (by omega))⟩
  have hox : vv_ox (fun s => s < 13) K N Z D Im W (fun _ => 0) := by
    intro s hs
    obtain ⟨a, b, c, d, e, f⟩ := h s hs
    refine ⟨by omega, Or.inl ?_⟩
    rcases Nat.lt_or_ge s 3 with z | z
    · exact ⟨s, by omega, (a z).1, fun _ => (a z).2, c, d, e, f⟩
    · exact ⟨3, by omega, (b z).1, fun w => absurd w (by omega), c, d, e, f⟩
  have hb : rl_b (fun s => s < 13) K N := by
    refine ⟨fun s hs => ⟨by show s < 13; omega, ((h s (by omega)).1 hs).1⟩, fun g hg => ⟨by show 3 + g < 13; omega, ?_⟩⟩
    have := (h (3 + g) (by omega)).2.1 (by omega)
    rw [show 3 + g - 3 = g by omega] at this
    exact this
  unfold wpY_init
  refine ⟨fun s => s < 13, 0, 0, 0, 0, 0, 0, ⟨rfl, rfl, by omega, rfl, rfl, by omega, rfl, rfl, by omega, by omega, hox, fun s hs => hs, hb, ⟨by omega, by omega, fun j hj => absurd hj (by omega)⟩, fun i hi => absurd hi (by omega), ?_⟩, ⟨rfl, rfl, by omega, rfl, rfl, by omega, rfl, rfl, rfl, fun q hq => absurd hq (by omega), fun i hi => absurd hi (by omega)⟩, Or.inl rfl⟩
  show vv_R _ _ _ _ _ _ _ _ _ _ _ _ 0 0
  rw [yy_0]
  exact rl_R0 hox hb (κ := 0) (by omega)
