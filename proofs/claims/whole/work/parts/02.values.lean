/-! ===== values: what a slot of X, a long of Y unfold to ===== -/
abbrev vv_L : Type := Int32 × Int32 × Int32 × Int32
def vv_x (K N Z D P : Nat → Int32) : List Nat → Nat → Option vv_L
  | [], s => some (K s, N s, Z s, D s)
  | i :: p, s => if i < (Z s).toNatClampNeg then vv_x K N Z D P p (P (s * 10 + i)).toNatClampNeg else none
def vv_y (o l k d : Nat → Int32) (pl : Nat → Int64) : List Nat → Int64 → Option vv_L
  | [], w => some (if yy_k w < 4 then (nI (yy_k w), w.toInt32, 0, 0) else (nI (yy_k w), k w.toInt32.toNatClampNeg, l w.toInt32.toNatClampNeg, d w.toInt32.toNatClampNeg))
  | i :: p, w => if yy_k w < 4 then none else if i < (l w.toInt32.toNatClampNeg).toNatClampNeg then vv_y o l k d pl p (pl ((o w.toInt32.toNatClampNeg).toNatClampNeg + i)) else none
/-- a long of Y that may stand in a value -/
def vv_vy (mk : Nat) (w : Int64) : Prop := ∃ k x, k ≤ 5 ∧ w = yy_t k x ∧ (4 ≤ k → ∃ j, j < mk ∧ x = nI j)
/-- Y's composites: their places lie within the pool, and hold values -/
def vv_cy (mk pd : Nat) (o l : Nat → Int32) (pl : Nat → Int64) : Prop := mk ≤ 760 ∧ pd ≤ 8200 ∧ ∀ j, j < mk → ∃ a b, o j = nI a ∧ l j = nI b ∧ b ≤ 10 ∧ a + b ≤ pd ∧ ∀ i, i < b → vv_vy mk (pl (a + i))
/-- the most items a value of a depth has -/
def vv_bd : Nat → Nat
  | 0 => 1
  | d + 1 => 12 + 10 * vv_bd d
def vv_pc (m : Nat) (b : Nat) : Nat := vv_sm (fun i => m / 2 ^ i % 2) b
/-- a slot of X that holds a whole value -/
def vv_lx (V : Nat → Prop) (K N Z D I W P : Nat → Int32) (s : Nat) : Prop :=
  (∃ k, k ≤ 3 ∧ K s = nI k ∧ (k < 3 → N s = 0) ∧ Z s = 0 ∧ D s = 0 ∧ I s = 1 ∧ W s = 1) ∨
  (∃ k z d, (k = 4 ∨ k = 5) ∧ K s = nI k ∧ Z s = nI z ∧ z ≤ 10 ∧ D s = nI (d + 1) ∧ d < 4 ∧
    (∀ i, i < z → ∃ c, P (s * 10 + i) = nI c ∧ c < 653 ∧ V c ∧ (s < 53 → c < 53) ∧ ∃ e, e ≤ d ∧ D c = nI e) ∧
    (k = 4 → N s = 0) ∧ (k = 5 → ∃ m, m < 256 ∧ N s = nI m ∧ z = vv_pc m 8) ∧
    I s = nI (2 + vv_sm (fun i => k - 4 + (I (P (s * 10 + i)).toNatClampNeg).toNatClampNeg) z) ∧
    W s = nI (1 + vv_sm (fun i => (W (P (s * 10 + i)).toNatClampNeg).toNatClampNeg) z))
def vv_ox (V : Nat → Prop) (K N Z D I W P : Nat → Int32) : Prop := ∀ s, V s → s < 653 ∧ vv_lx V K N Z D I W P s
section
variable {V V' : Nat → Prop} {K N Z D I W P K' N' Z' D' I' W' P' : Nat → Int32} {o l k d o' l' k' d' : Nat → Int32} {pl pl' : Nat → Int64} {mk mk' pd pd' : Nat}
/-- what a valid slot is, cut short: its size and its places -/
theorem vv_ox_z (h : vv_ox V K N Z D I W P) {s : Nat} (hs : V s) : ∃ z, z ≤ 10 ∧ Z s = nI z ∧ ∀ i, i < z → ∃ c, P (s * 10 + i) = nI c ∧ c < 653 ∧ V c := by
  obtain ⟨_, h | h⟩ := h s hs
  · obtain ⟨k, _, _, _, hz, _⟩ := h
    exact ⟨0, by omega, hz, fun i hi => absurd hi (by omega)⟩
  · obtain ⟨k, z, d, _, _, hz, hz10, _, _, hc, _⟩ := h
    exact ⟨z, hz10, hz, fun i hi => by
      obtain ⟨c, h1, h2, h3, _⟩ := hc i hi
      exact ⟨c, h1, h2, h3⟩⟩
/-- unfolding doesn't see what happens outside a closed set -/
theorem vv_x_st (h : vv_ox V K N Z D I W P) (e : ∀ s, V s → K' s = K s ∧ N' s = N s ∧ Z' s = Z s ∧ D' s = D s ∧ ∀ i, i < 10 → P' (s * 10 + i) = P (s * 10 + i)) : ∀ p s, V s → vv_x K' N' Z' D' P' p s = vv_x K N Z D P p s := by
  intro p
  induction p with
  | nil =>
    intro s hs
    obtain ⟨a, b, c, d, _⟩ := e s hs
    simp only [vv_x, a, b, c, d]
  | cons i p ih =>
    intro s hs
    obtain ⟨_, _, c, _, f⟩ := e s hs
    obtain ⟨z, hz, ez, hc⟩ := vv_ox_z h hs
    simp only [vv_x]
    rw [c, ez, nI_clamp (by omega)]
    by_cases hi : i < z
    · obtain ⟨q, e1, e2, e3⟩ := hc i hi
      rw [if_pos hi, if_pos hi, f i (by omega), e1, nI_clamp (by omega)]
      exact ih q e3
    · rw [if_neg hi, if_neg hi]
theorem vv_vy_up (h : mk ≤ mk') {w : Int64} (hw : vv_vy mk w) : vv_vy mk' w := by
  obtain ⟨k, x, a, b, c⟩ := hw
  exact ⟨k, x, a, b, fun z => by
    obtain ⟨j, hj, e⟩ := c z
    exact ⟨j, by omega, e⟩⟩
theorem vv_y_st (h : vv_cy mk pd o l pl) (e : ∀ j, j < mk → o' j = o j ∧ l' j = l j ∧ k' j = k j ∧ d' j = d j ∧ ∀ a b, o j = nI a → l j = nI b → b ≤ 10 → a + b ≤ pd → ∀ i, i < b → pl' (a + i) = pl (a + i)) : ∀ p w, vv_vy mk w → vv_y o' l' k' d' pl' p w = vv_y o l k d pl p w := by
  intro p
  induction p with
  | nil =>
    intro w hw
    obtain ⟨κ, x, h5, rfl, hq⟩ := hw
    simp only [vv_y, yy_kt (show κ < 16 by omega), yy_xt]
    by_cases h4 : κ < 4
    · rw [if_pos h4, if_pos h4]
    · obtain ⟨j, hj, rfl⟩ := hq (by omega)
      obtain ⟨hm, _⟩ := h
      obtain ⟨a, b, c, f, _⟩ := e j hj
      rw [if_neg h4, if_neg h4, nI_clamp (by omega), b, c, f]
  | cons i p ih =>
    intro w hw
    obtain ⟨κ, x, h5, rfl, hq⟩ := hw
    simp only [vv_y, yy_kt (show κ < 16 by omega), yy_xt]
    by_cases h4 : κ < 4
    · rw [if_pos h4, if_pos h4]
    · obtain ⟨j, hj, rfl⟩ := hq (by omega)
      obtain ⟨hm, hp, hc⟩ := h
      obtain ⟨e1, e2, _, _, e5⟩ := e j hj
      obtain ⟨a, b, ha, hb, hb10, hab, hv⟩ := hc j hj
      rw [if_neg h4, if_neg h4, nI_clamp (by omega), e2, e1, ha, hb, nI_clamp (by omega), nI_clamp (by omega)]
      by_cases hi : i < b
      · rw [if_pos hi, if_pos hi, e5 a b ha hb hb10 hab i hi]
        exact ih _ (hv i hi)
      · rw [if_neg hi, if_neg hi]
/-- a slot of X and a long of Y hold the same value -/
def vv_R (V : Nat → Prop) (K N Z D P : Nat → Int32) (mk : Nat) (o l k d : Nat → Int32) (pl : Nat → Int64) (s : Int32) (w : Int64) : Prop :=
  ∃ n, s = nI n ∧ n < 653 ∧ V n ∧ vv_vy mk w ∧ ∀ p, vv_x K N Z D P p n = vv_y o l k d pl p w
theorem vv_R_up (hx : vv_ox V K N Z D I W P) (hy : vv_cy mk pd o l pl)
    (ex : ∀ s, V s → V' s ∧ K' s = K s ∧ N' s = N s ∧ Z' s = Z s ∧ D' s = D s ∧ ∀ i, i < 10 → P' (s * 10 + i) = P (s * 10 + i))
    (hm : mk ≤ mk') (ey : ∀ j, j < mk → o' j = o j ∧ l' j = l j ∧ k' j = k j ∧ d' j = d j ∧ ∀ a b, o j = nI a → l j = nI b → b ≤ 10 → a + b ≤ pd → ∀ i, i < b → pl' (a + i) = pl (a + i))
    {s : Int32} {w : Int64} (h : vv_R V K N Z D P mk o l k d pl s w) : vv_R V' K' N' Z' D' P' mk' o' l' k' d' pl' s w := by
  obtain ⟨n, e, hn, hv, hw, h⟩ := h
  exact ⟨n, e, hn, (ex n hv).1, vv_vy_up hm hw, fun p => by
    rw [vv_x_st hx (fun s hs => (ex s hs).2) p n hv, vv_y_st hy ey p w hw]
    exact h p⟩
/-- what a pair of like values is made of -/
theorem vv_R_is (hx : vv_ox V K N Z D I W P) (hy : vv_cy mk pd o l pl) {s : Int32} {w : Int64} (h : vv_R V K N Z D P mk o l k d pl s w) :
    ∃ n κ x, s = nI n ∧ n < 653 ∧ V n ∧ κ ≤ 5 ∧ w = yy_t κ x ∧ K n = nI κ ∧
      ((κ < 4 ∧ N n = x ∧ Z n = 0 ∧ D n = 0) ∨ (4 ≤ κ ∧ ∃ j a b, j < mk ∧ x = nI j ∧ o j = nI a ∧ l j = nI b ∧ b ≤ 10 ∧ a + b ≤ pd ∧ N n = k j ∧ Z n = nI b ∧ D n = d j ∧ ∀ i, i < b → vv_R V K N Z D P mk o l k d pl (P (n * 10 + i)) (pl (a + i)))) := by
  obtain ⟨n, e, hn, hv, ⟨κ, x, h5, rfl, hq⟩, h⟩ := h
  refine ⟨n, κ, x, e, hn, hv, h5, rfl, ?_⟩
  have h0 := h []
  simp only [vv_x, vv_y, yy_kt (show κ < 16 by omega), yy_xt, Option.some.injEq] at h0
  by_cases h4 : κ < 4
  · rw [if_pos h4] at h0
    simp only [Prod.mk.injEq] at h0
    exact ⟨h0.1, Or.inl ⟨h4, h0.2.1, h0.2.2.1, h0.2.2.2⟩⟩
  · obtain ⟨j, hj, rfl⟩ := hq (by omega)
    obtain ⟨hm, hp, hc⟩ := hy
    obtain ⟨a, b, ha, hb, hb10, hab, hvy⟩ := hc j hj
    rw [if_neg h4, nI_clamp (by omega)] at h0
    simp only [Prod.mk.injEq] at h0
    have hZ : Z n = nI b := h0.2.2.1.trans hb
    refine ⟨h0.1, Or.inr ⟨by omega, j, a, b, hj, rfl, ha, hb, hb10, hab, h0.2.1, hZ, h0.2.2.2, fun i hi => ?_⟩⟩
    obtain ⟨z, hz, ez, hcx⟩ := vv_ox_z hx hv
    have hzb : z = b := by
      rw [hZ] at ez
      exact ((nI_eq (by omega) (by omega)).mp ez).symm
    obtain ⟨c, e1, e2, e3⟩ := hcx i (by omega)
    refine ⟨c, e1, e2, e3, hvy i hi, fun p => ?_⟩
    have hp' := h (i :: p)
    simp only [vv_x, vv_y, yy_kt (show κ < 16 by omega), yy_xt] at hp'
    rw [if_neg h4, nI_clamp (by omega), hZ, hb, ha, nI_clamp (show b < 2 ^ 31 by omega), nI_clamp (show a < 2 ^ 31 by omega), if_pos hi, if_pos hi, e1, nI_clamp (by omega)] at hp'
    exact hp'
theorem vv_R_plain {n κ : Nat} {x : Int32} (hn : n < 653) (hv : V n) (hk : κ ≤ 3) (eK : K n = nI κ) (eN : N n = x) (eZ : Z n = 0) (eD : D n = 0) : vv_R V K N Z D P mk o l k d pl (nI n) (yy_t κ x) := by
  refine ⟨n, rfl, hn, hv, ⟨κ, x, by omega, rfl, fun h => absurd h (by omega)⟩, fun p => ?_⟩
  cases p with
  | nil =>
    simp only [vv_x, vv_y, yy_kt (show κ < 16 by omega), yy_xt]
    rw [if_pos (by omega), eK, eN, eZ, eD]
  | cons i p =>
    simp only [vv_x, vv_y, yy_kt (show κ < 16 by omega), yy_xt]
    rw [if_pos (show κ < 4 by omega), eZ, if_neg (by show ¬ i < (nI 0).toNatClampNeg; rw [nI_clamp (by omega)]; omega)]
theorem vv_R_nest {n κ j a b : Nat} (hn : n < 653) (hv : V n) (hk : κ = 4 ∨ κ = 5) (eK : K n = nI κ) (hj : j < mk) (hm : mk ≤ 760) (hb : b ≤ 10) (ha : a < 10000) (eo : o j = nI a) (el : l j = nI b) (eN : N n = k j) (eZ : Z n = nI b) (eD : D n = d j)
    (hc : ∀ i, i < b → vv_R V K N Z D P mk o l k d pl (P (n * 10 + i)) (pl (a + i))) : vv_R V K N Z D P mk o l k d pl (nI n) (yy_t κ (nI j)) := by
  refine ⟨n, rfl, hn, hv, ⟨κ, nI j, by omega, rfl, fun _ => ⟨j, hj, rfl⟩⟩, fun p => ?_⟩
  cases p with
  | nil =>
    simp only [vv_x, vv_y, yy_kt (show κ < 16 by omega), yy_xt]
    rw [if_neg (by omega), nI_clamp (by omega), eK, eN, eZ, eD, el]
  | cons i p =>
    simp only [vv_x, vv_y, yy_kt (show κ < 16 by omega), yy_xt]
    rw [if_neg (show ¬ κ < 4 by omega), nI_clamp (show j < 2 ^ 31 by omega), eZ, el, eo, nI_clamp (show b < 2 ^ 31 by omega), nI_clamp (show a < 2 ^ 31 by omega)]
    by_cases hi : i < b
    · obtain ⟨c, e1, e2, _, _, h⟩ := hc i hi
      rw [if_pos hi, if_pos hi, e1, nI_clamp (by omega), ← h p]
    · rw [if_neg hi, if_neg hi]
end
/-! ===== bounds; deep: paths and their places in preorder ===== -/
def dp_ch (P : Nat → Int32) (s i : Nat) : Nat := (P (s * 10 + i)).toNatClampNeg
theorem vv_bd_up : ∀ {e d : Nat}, e ≤ d → vv_bd e ≤ vv_bd d := by
  intro e d
  induction d with
  | zero =>
    intro h
    have : e = 0 := by omega
    subst this
    exact Nat.le_refl _
  | succ d ih =>
    intro h
    by_cases z : e = d + 1
    · subst z; exact Nat.le_refl _
    · have := ih (by omega)
      rw [vv_bd]
      omega
theorem vv_bd_4 {d : Nat} (h : d ≤ 4) : vv_bd d ≤ 23332 := Nat.le_trans (vv_bd_up h) (by decide)
theorem vv_sm_up {f : Nat → Nat} : ∀ {i z : Nat}, i < z → vv_sm f i + f i ≤ vv_sm f z := by
  intro i z
  induction z with
  | zero => intro h; omega
  | succ z ih =>
    intro h
    rw [vv_sm]
    by_cases e : i = z
    · subst e; exact Nat.le_refl _
    · have := ih (by omega)
      omega
section
variable {V : Nat → Prop} {K N Z D I W P : Nat → Int32}
theorem vv_D (h : vv_ox V K N Z D I W P) {s : Nat} (hs : V s) : ∃ e, e ≤ 4 ∧ D s = nI e := by
  obtain ⟨_, h | h⟩ := h s hs
  · obtain ⟨k, _, _, _, _, hd, _⟩ := h
    exact ⟨0, by omega, hd⟩
  · obtain ⟨k, z, d, _, _, _, _, hd, h4, _⟩ := h
    exact ⟨d + 1, by omega, hd⟩
theorem vv_IW (h : vv_ox V K N Z D I W P) : ∀ e s, V s → (D s).toNatClampNeg ≤ e → e ≤ 4 →
    (∃ i, I s = nI i ∧ 1 ≤ i ∧ i ≤ vv_bd e) ∧ (∃ w, W s = nI w ∧ 1 ≤ w ∧ w ≤ vv_bd e) := by
  intro e
  induction e with
  | zero =>
    intro s hs he h4
    obtain ⟨_, h | h⟩ := h s hs
    · obtain ⟨k, _, _, _, _, _, hi, hw⟩ := h
      exact ⟨⟨1, hi, by decide, by decide⟩, ⟨1, hw, by decide, by decide⟩⟩
    · obtain ⟨k, z, d, _, _, _, _, hd, h4', _⟩ := h
      rw [hd, nI_clamp (by omega)] at he
      omega
  | succ e ih =>
    intro s hs he h4
    obtain ⟨_, hl | hl⟩ := h s hs
    · obtain ⟨k, _, _, _, _, _, hi, hw⟩ := hl
      have : 1 ≤ vv_bd (e + 1) := by rw [vv_bd]; omega
      exact ⟨⟨1, hi, by decide, this⟩, ⟨1, hw, by decide, this⟩⟩
    · obtain ⟨k, z, d, hk, _, _, hz, hd, h4', hc, _, _, hi, hw⟩ := hl
      rw [hd, nI_clamp (by omega)] at he
      have hch : ∀ i, i < z → (∃ q, I (P (s * 10 + i)).toNatClampNeg = nI q ∧ 1 ≤ q ∧ q ≤ vv_bd e) ∧ (∃ w, W (P (s * 10 + i)).toNatClampNeg = nI w ∧ 1 ≤ w ∧ w ≤ vv_bd e) := by
        intro i hiz
        obtain ⟨c, e1, e2, e3, _, q, e4, e5⟩ := hc i hiz
        rw [e1, nI_clamp (by omega)]
        exact ih c e3 (by rw [e5, nI_clamp (by omega)]; omega) (by omega)
      have hb := vv_bd_4 (show e ≤ 4 by omega)
      have s1 : vv_sm (fun i => k - 4 + (I (P (s * 10 + i)).toNatClampNeg).toNatClampNeg) z ≤ z * (1 + vv_bd e) := by
        apply vv_sm_le
        intro i hiz
        obtain ⟨⟨q, e1, e2, e3⟩, _⟩ := hch i hiz
        show k - 4 + (I (P (s * 10 + i)).toNatClampNeg).toNatClampNeg ≤ _
        rw [e1, nI_clamp (by omega)]
        omega
      have s2 : vv_sm (fun i => (W (P (s * 10 + i)).toNatClampNeg).toNatClampNeg) z ≤ z * (1 + vv_bd e) := by
        apply vv_sm_le
        intro i hiz
        obtain ⟨_, q, e1, e2, e3⟩ := hch i hiz
        show (W (P (s * 10 + i)).toNatClampNeg).toNatClampNeg ≤ _
        rw [e1, nI_clamp (by omega)]
        omega
      have s3 : z * (1 + vv_bd e) ≤ 10 * (1 + vv_bd e) := Nat.mul_le_mul_right _ hz
      refine ⟨⟨_, hi, by omega, ?_⟩, ⟨_, hw, by omega, ?_⟩⟩
      · rw [vv_bd]; omega
      · rw [vv_bd]; omega
theorem vv_IW4 (h : vv_ox V K N Z D I W P) {s : Nat} (hs : V s) : (∃ i, I s = nI i ∧ 1 ≤ i ∧ i ≤ 23332) ∧ (∃ w, W s = nI w ∧ 1 ≤ w ∧ w ≤ 23332) := by
  obtain ⟨e, h4, he⟩ := vv_D h hs
  obtain ⟨⟨i, a, b, c⟩, ⟨w, a', b', c'⟩⟩ := vv_IW h e s hs (by rw [he, nI_clamp (by omega)]; exact Nat.le_refl _) h4
  have := vv_bd_4 h4
  exact ⟨⟨i, a, b, by omega⟩, ⟨w, a', b', by omega⟩⟩
def dp_at (P : Nat → Int32) : List Nat → Nat → Nat
  | [], s => s
  | i :: p, s => dp_at P p (dp_ch P s i)
def dp_ok (Z P : Nat → Int32) : List Nat → Nat → Prop
  | [], _ => True
  | i :: p, s => i < (Z s).toNatClampNeg ∧ dp_ok Z P p (dp_ch P s i)
def dp_w (W P : Nat → Int32) (s : Nat) (j : Nat) : Nat := (W (dp_ch P s j)).toNatClampNeg
def dp_ix (W P : Nat → Int32) : List Nat → Nat → Nat
  | [], _ => 0
  | i :: p, s => 1 + vv_sm (dp_w W P s) i + dp_ix W P p (dp_ch P s i)
theorem dp_at_s (P : Nat → Int32) (k : Nat) : ∀ r s, dp_at P (r ++ [k]) s = dp_ch P (dp_at P r s) k
  | [], _ => rfl
  | _ :: r, s => dp_at_s P k r _
theorem dp_ok_s (Z P : Nat → Int32) (k : Nat) : ∀ r s, dp_ok Z P (r ++ [k]) s ↔ dp_ok Z P r s ∧ k < (Z (dp_at P r s)).toNatClampNeg
  | [], s => by simp [dp_ok, dp_at]
  | i :: r, s => by
    have := dp_ok_s Z P k r (dp_ch P s i)
    simp only [List.cons_append, dp_ok, dp_at, this, and_assoc]
theorem dp_ix_s (W P : Nat → Int32) (k : Nat) : ∀ r s, dp_ix W P (r ++ [k]) s = dp_ix W P r s + 1 + vv_sm (dp_w W P (dp_at P r s)) k
  | [], s => by simp [dp_ix, dp_at]
  | i :: r, s => by
    have := dp_ix_s W P k r (dp_ch P s i)
    simp only [List.cons_append, dp_ix, dp_at, this]
    omega
theorem dp_V (h : vv_ox V K N Z D I W P) : ∀ p s, V s → dp_ok Z P p s → V (dp_at P p s)
  | [], _, hs, _ => hs
  | i :: p, s, hs, hp => by
    obtain ⟨z, hz, ez, hc⟩ := vv_ox_z h hs
    obtain ⟨h1, h2⟩ := hp
    rw [ez, nI_clamp (by omega)] at h1
    obtain ⟨c, e1, e2, e3⟩ := hc i h1
    refine dp_V h p _ ?_ h2
    rw [dp_ch, e1, nI_clamp (by omega)]
    exact e3
/-- the number of values that deep has of a value -/
theorem dp_W (h : vv_ox V K N Z D I W P) {s : Nat} (hs : V s) : (W s).toNatClampNeg = 1 + vv_sm (dp_w W P s) (Z s).toNatClampNeg := by
  obtain ⟨_, _, hw⟩ := vv_IW4 h hs
  obtain ⟨w, ew, w1, w2⟩ := vv_IW4 h hs |>.2
  obtain ⟨_, hl | hl⟩ := h s hs
  · obtain ⟨k, _, _, _, hz, _, _, hw⟩ := hl
    rw [hw, hz, show (0 : Int32).toNatClampNeg = 0 from by decide, show (1 : Int32).toNatClampNeg = 1 from by decide]
    rfl
  · obtain ⟨k, z, d, hk, _, hz, hz10, hd, h4', hc, _, _, hi, hw⟩ := hl
    have e : w = 1 + vv_sm (fun i => (W (P (s * 10 + i)).toNatClampNeg).toNatClampNeg) z := by
      have hb : vv_sm (fun i => (W (P (s * 10 + i)).toNatClampNeg).toNatClampNeg) z ≤ z * 23332 := by
        apply vv_sm_le
        intro i hiz
        obtain ⟨c, e1, e2, e3, _⟩ := hc i hiz
        obtain ⟨q, a, b, c'⟩ := (vv_IW4 h e3).2
        show (W (P (s * 10 + i)).toNatClampNeg).toNatClampNeg ≤ _
        rw [e1, nI_clamp (by omega), a, nI_clamp (by omega)]
        exact c'
      have hb2 : z * 23332 ≤ 10 * 23332 := Nat.mul_le_mul_right _ hz10
      rw [hw] at ew
      exact ((nI_eq (by omega) (by omega)).mp ew).symm
    rw [ew, hz, nI_clamp (by omega), nI_clamp (by omega), e]
    rfl
theorem dp_ix_lt (h : vv_ox V K N Z D I W P) : ∀ p s, V s → dp_ok Z P p s → dp_ix W P p s < (W s).toNatClampNeg
  | [], s, hs, _ => by
    rw [dp_W h hs, dp_ix]
    omega
  | i :: p, s, hs, hp => by
    obtain ⟨z, hz, ez, hc⟩ := vv_ox_z h hs
    obtain ⟨h1, h2⟩ := hp
    have h1' := h1
    rw [ez, nI_clamp (by omega)] at h1
    obtain ⟨c, e1, e2, e3⟩ := hc i h1
    have ec : dp_ch P s i = c := by rw [dp_ch, e1, nI_clamp (by omega)]
    have := dp_ix_lt h p _ (by rw [ec]; exact e3) h2
    rw [dp_W h hs, dp_ix]
    have h3 := vv_sm_up (f := dp_w W P s) h1'
    have h4 : dp_w W P s i = (W (dp_ch P s i)).toNatClampNeg := rfl
    omega
/-- a path as Y writes it: base 16 behind a 1 -/
def dp_wy (p : List Nat) : Nat := p.foldl (fun w k => w * 16 + k) 1
theorem dp_wy_s (r : List Nat) (k : Nat) : dp_wy (r ++ [k]) = dp_wy r * 16 + k := by
  simp [dp_wy, List.foldl_append]
theorem dp_wf (p : List Nat) : ∀ a, p.foldl (fun w k => w * 16 + k) a = a * 16 ^ p.length + p.foldl (fun w k => w * 16 + k) 0 := by
  induction p with
  | nil => intro a; simp
  | cons k p ih =>
    intro a
    rw [List.foldl_cons, List.foldl_cons, ih (a * 16 + k), ih (0 * 16 + k), List.length_cons, Nat.pow_succ]
    have e : (a * 16 + k) * 16 ^ p.length = a * (16 ^ p.length * 16) + k * 16 ^ p.length := by
      rw [Nat.add_mul, Nat.mul_assoc, Nat.mul_comm 16]
    rw [e]
    have e2 : (0 * 16 + k) * 16 ^ p.length = k * 16 ^ p.length := by rw [Nat.zero_mul, Nat.zero_add]
    rw [e2]
    omega
theorem dp_wf_lt : ∀ (p : List Nat), (∀ k, k ∈ p → k < 16) → p.foldl (fun w k => w * 16 + k) 0 < 16 ^ p.length
  | [], _ => by simp
  | k :: p, h => by
    have h1 := dp_wf_lt p (fun j hj => h j (List.mem_cons_of_mem _ hj))
    have h2 := h k List.mem_cons_self
    rw [List.foldl_cons, dp_wf, List.length_cons, Nat.pow_succ]
    have h3 : (0 * 16 + k) * 16 ^ p.length ≤ 15 * 16 ^ p.length := Nat.mul_le_mul_right _ (by omega)
    omega
/-- the digits of a way -/
theorem dp_dig (q r : List Nat) (k : Nat) (h : ∀ j, j ∈ r → j < 16) (hk : k < 16) : dp_wy (q ++ k :: r) / 16 ^ r.length % 16 = k := by
  have e : dp_wy (q ++ k :: r) = (dp_wy q * 16 + k) * 16 ^ r.length + r.foldl (fun w k => w * 16 + k) 0 := by
    unfold dp_wy
    rw [List.foldl_append, List.foldl_cons, dp_wf]
  have h1 := dp_wf_lt r h
  have hp : 0 < 16 ^ r.length := Nat.pow_pos (by decide)
  rw [e, Nat.add_comm, Nat.add_mul_div_right _ _ hp, Nat.div_eq_of_lt h1, Nat.zero_add]
  omega
theorem dp_wy_b (p : List Nat) (h : ∀ k, k ∈ p → k < 16) : 16 ^ p.length ≤ dp_wy p ∧ dp_wy p < 2 * 16 ^ p.length := by
  have h1 := dp_wf_lt p h
  unfold dp_wy
  rw [dp_wf]
  omega
end
/-! ===== a slot more ===== -/
section
variable {V V' : Nat → Prop} {K N Z D I W P K' N' Z' D' I' W' P' : Nat → Int32}
/-- two heaps of X are alike on a set of slots -/
def vv_eq (V : Nat → Prop) (K N Z D I W P K' N' Z' D' I' W' P' : Nat → Int32) : Prop :=
  ∀ s, V s → K' s = K s ∧ N' s = N s ∧ Z' s = Z s ∧ D' s = D s ∧ I' s = I s ∧ W' s = W s ∧ ∀ i, i < 10 → P' (s * 10 + i) = P (s * 10 + i)
theorem vv_lx_up (e : vv_eq V K N Z D I W P K' N' Z' D' I' W' P') (hV : ∀ s, V s → V' s) {s : Nat} (hs : V s) (h : vv_lx V K N Z D I W P s) : vv_lx V' K' N' Z' D' I' W' P' s := by
  obtain ⟨e1, e2, e3, e4, e5, e6, e7⟩ := e s hs
  rcases h with ⟨k, h1, h2, h3, h4, h5, h6, h7⟩ | ⟨k, z, d, h1, h2, h3, h4, h5, h6, h7, h8, h9, h10, h11⟩
  · exact Or.inl ⟨k, h1, e1.trans h2, fun q => e2.trans (h3 q), e3.trans h4, e4.trans h5, e5.trans h6, e6.trans h7⟩
  · refine Or.inr ⟨k, z, d, h1, e1.trans h2, e3.trans h3, h4, e4.trans h5, h6, fun i hi => ?_, fun q => e2.trans (h8 q), fun q => ?_, ?_, ?_⟩
    · obtain ⟨c, c1, c2, c3, c4, g, c5, c6⟩ := h7 i hi
      exact ⟨c, (e7 i (by omega)).trans c1, c2, hV c c3, c4, g, c5, (e c c3).2.2.2.1.trans c6⟩
    · obtain ⟨m, a, b, c⟩ := h9 q
      exact ⟨m, a, e2.trans b, c⟩
    · rw [e5, h10]
      congr 2
      apply vv_sm_c
      intro i hi
      obtain ⟨c, c1, c2, c3, _⟩ := h7 i hi
      show k - 4 + (I (P (s * 10 + i)).toNatClampNeg).toNatClampNeg = k - 4 + (I' (P' (s * 10 + i)).toNatClampNeg).toNatClampNeg
      rw [e7 i (by omega), c1, nI_clamp (by omega), (e c c3).2.2.2.2.1]
    · rw [e6, h11]
      congr 2
      apply vv_sm_c
      intro i hi
      obtain ⟨c, c1, c2, c3, _⟩ := h7 i hi
      show (W (P (s * 10 + i)).toNatClampNeg).toNatClampNeg = (W' (P' (s * 10 + i)).toNatClampNeg).toNatClampNeg
      rw [e7 i (by omega), c1, nI_clamp (by omega), (e c c3).2.2.2.2.2.1]
theorem vv_ox_add (h : vv_ox V K N Z D I W P) (e : vv_eq V K N Z D I W P K' N' Z' D' I' W' P') {n : Nat} (hn : n < 653) (hl : vv_lx (fun s => V s ∨ s = n) K' N' Z' D' I' W' P' n) : vv_ox (fun s => V s ∨ s = n) K' N' Z' D' I' W' P' := by
  intro s hs
  rcases hs with hs | rfl
  · exact ⟨(h s hs).1, vv_lx_up e (fun _ z => Or.inl z) hs (h s hs).2⟩
  · exact ⟨hn, hl⟩
theorem vv_ox_eq (h : vv_ox V K N Z D I W P) (e : vv_eq V K N Z D I W P K' N' Z' D' I' W' P') : vv_ox V K' N' Z' D' I' W' P' := fun s hs => ⟨(h s hs).1, vv_lx_up e (fun _ z => z) hs (h s hs).2⟩
theorem vv_eq_x (e : vv_eq V K N Z D I W P K' N' Z' D' I' W' P') : ∀ s, V s → K' s = K s ∧ N' s = N s ∧ Z' s = Z s ∧ D' s = D s ∧ ∀ i, i < 10 → P' (s * 10 + i) = P (s * 10 + i) := fun s hs => by
  obtain ⟨e1, e2, e3, e4, _, _, e7⟩ := e s hs
  exact ⟨e1, e2, e3, e4, e7⟩
/-- stores into a slot outside the set -/
theorem vv_pl {s n i j : Nat} (hne : s ≠ n) (hi : i < 10) (hj : j < 10) : s * 10 + i ≠ n * 10 + j := by omega
/-- the deepest of some values -/
def vv_mx (f : Nat → Nat) : Nat → Nat
  | 0 => 0
  | n + 1 => if vv_mx f n < f n then f n else vv_mx f n
theorem vv_mx_ge {f : Nat → Nat} : ∀ {n i : Nat}, i < n → f i ≤ vv_mx f n := by
  intro n
  induction n with
  | zero => intro i h; omega
  | succ n ih =>
    intro i h
    rw [vv_mx]
    by_cases e : i = n
    · subst e; split <;> omega
    · have := ih (show i < n by omega)
      split <;> omega
theorem vv_mx_le {f : Nat → Nat} {b : Nat} : ∀ {n : Nat}, (∀ i, i < n → f i ≤ b) → vv_mx f n ≤ b := by
  intro n
  induction n with
  | zero => intro h; rw [vv_mx]; omega
  | succ n ih =>
    intro h
    have h1 := ih (fun i hi => h i (by omega))
    have h2 := h n (by omega)
    rw [vv_mx]
    split <;> omega
theorem vv_mx_c {f g : Nat → Nat} : ∀ n, (∀ i, i < n → f i = g i) → vv_mx f n = vv_mx g n
  | 0, _ => rfl
  | n + 1, h => by
    rw [vv_mx, vv_mx, vv_mx_c n (fun i hi => h i (by omega)), h n (by omega)]
end
/-! ===== the order of values, over X's slots ===== -/
def oo_sg (a b : Nat) : Int32 := if a < b then -1 else if b < a then 1 else 0
def oo_l (f : Nat → Int32) (e : Int32) : Nat → Nat → Int32
  | 0, _ => e
  | m + 1, q => if f q = 0 then oo_l f e m (q + 1) else f q
def oo_c (hd : Nat → Nat → Int32) (Z P : Nat → Int32) : Nat → Nat → Nat → Int32
  | 0, s, t => hd s t
  | d + 1, s, t => if hd s t = 0 then oo_l (fun i => oo_c hd Z P d (dp_ch P s i) (dp_ch P t i)) (oo_sg (Z s).toNatClampNeg (Z t).toNatClampNeg) (min (Z s).toNatClampNeg (Z t).toNatClampNeg) 0 else hd s t
theorem oo_sg_r (a : Nat) : oo_sg a a = 0 := by unfold oo_sg; rw [if_neg (by omega), if_neg (by omega)]
theorem oo_l_0 {f : Nat → Int32} : ∀ m q, (∀ i, f i = 0) → oo_l f 0 m q = 0
  | 0, _, _ => rfl
  | m + 1, q, h => by rw [oo_l, if_pos (h q)]; exact oo_l_0 m (q + 1) h
theorem oo_l_c {f g : Nat → Int32} {e : Int32} : ∀ m q, (∀ i, i < q + m → f i = g i) → oo_l f e m q = oo_l g e m q
  | 0, _, _ => rfl
  | m + 1, q, h => by
    rw [oo_l, oo_l, h q (by omega), oo_l_c m (q + 1) (fun i hi => h i (by omega))]
theorem oo_c_r {hd : Nat → Nat → Int32} {Z P : Nat → Int32} (hr : ∀ s, hd s s = 0) : ∀ d s, oo_c hd Z P d s s = 0
  | 0, s => hr s
  | d + 1, s => by
    rw [oo_c, if_pos (hr s), oo_sg_r]
    exact oo_l_0 _ _ (fun i => oo_c_r hr d _)
