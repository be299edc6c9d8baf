/-! ===== the order: kinds, numbers, lists of keys ===== -/
def oo_lb : Nat → Nat → Nat
  | 0, _ => 0
  | n + 1, d => if d % 2 = 1 then 0 else oo_lb n (d / 2) + 1
/-- the order of two lists of keys, as sets of bits -/
def oo_k (a b : Nat) : Int32 :=
  if a = b then 0 else
    if a / 2 ^ oo_lb 8 (a ^^^ b) % 2 = 1 then (if b / 2 ^ oo_lb 8 (a ^^^ b) = 0 then 1 else -1) else (if a / 2 ^ oo_lb 8 (a ^^^ b) = 0 then -1 else 1)
theorem oo_t1 : ∀ d, d < 256 → d ≠ 0 → nI d &&& (-(nI d)) = nI (2 ^ oo_lb 8 d) ∧ oo_lb 8 d < 8 ∧ d / 2 ^ oo_lb 8 d % 2 = 1 := by decide +kernel
theorem oo_t2 : ∀ d, d < 256 → ∀ i, i < oo_lb 8 d → d / 2 ^ i % 2 = 0 := by decide +kernel
theorem oo_t3 : ∀ k, k < 8 → ∀ x, x < 256 → x / 2 ^ k % 2 = 0 → (x ≤ 2 ^ k ↔ x / 2 ^ k = 0) := by decide +kernel
theorem oo_x1 {a b : Nat} (ha : a < 256) (hb : b < 256) : a ^^^ b < 256 := Nat.xor_lt_two_pow (n := 8) ha hb
theorem oo_x2 (a b i : Nat) : (a ^^^ b) / 2 ^ i % 2 = (a / 2 ^ i + b / 2 ^ i) % 2 := by
  have h := Nat.testBit_xor a b i
  rw [Nat.testBit_eq_decide_div_mod_eq, Nat.testBit_eq_decide_div_mod_eq, Nat.testBit_eq_decide_div_mod_eq] at h
  generalize (a ^^^ b) / 2 ^ i = x at *
  generalize a / 2 ^ i = y at *
  generalize b / 2 ^ i = z at *
  rcases Nat.mod_two_eq_zero_or_one x with hx | hx <;> rcases Nat.mod_two_eq_zero_or_one y with hy | hy <;> rcases Nat.mod_two_eq_zero_or_one z with hz | hz <;> simp [hx, hy, hz] at h <;> omega
theorem oo_and : ∀ a, a < 256 → ∀ i, i < 8 → (a &&& 2 ^ i = 0 ↔ a / 2 ^ i % 2 = 0) := by decide +kernel
/-- the order of two heads -/
def oo_h (K N : Nat → Int32) (s t : Nat) : Int32 :=
  if K s = K t then (if K s = 3 then (if N t ≤ N s then (if N s ≤ N t then 0 else 1) else -1) else if K s = 5 then oo_k (N s).toNatClampNeg (N t).toNatClampNeg else 0) else if K t ≤ K s then 1 else -1
theorem oo_k_x {a b : Nat} (ha : a < 256) (hb : b < 256) (hne : a ≠ b) {post : Int32 → Prop} (hp : post (oo_k a b)) {xst xow xin xpa xfi xfr xno xsi xan xkn xen xco xrm xac : Int32} {K N Z D Im W P vS pO pX pI fS fP fI fU fR fO fA fH fG fN aS qL qR qP : Nat → Int32} :
    ∀ y, y = (nI a ^^^ nI b) &&& (-(nI a ^^^ nI b)) → (((nI a &&& y) = 0 → wX_headOrder_105 post (nI a) (nI b) y 0 xst xow xin xpa xfi xfr xno xsi xan xkn xen xco xrm xac K N Z D Im W P vS pO pX pI fS fP fI fU fR fO fA fH fG fN aS qL qR qP) ∧ (¬ (nI a &&& y) = 0 → wX_headOrder_105 post (nI a) (nI b) y 1 xst xow xin xpa xfi xfr xno xsi xan xkn xen xco xrm xac K N Z D Im W P vS pO pX pI fS fP fI fU fR fO fA fH fG fN aS qL qR qP)) := by
  have h0 : a ^^^ b ≠ 0 := by
    intro e
    apply hne
    apply Nat.eq_of_testBit_eq
    intro i
    have h := Nat.testBit_xor a b i
    rw [e, Nat.zero_testBit] at h
    revert h
    cases a.testBit i <;> cases b.testBit i <;> simp
  have hx := oo_x1 ha hb
  obtain ⟨t1, t2, t3⟩ := oo_t1 _ hx h0
  rw [oo_x2] at t3
  rw [nx_xor, t1]
  have hb2 : 2 ^ oo_lb 8 (a ^^^ b) ≤ 2 ^ 7 := Nat.pow_le_pow_right (by decide) (by omega)
  unfold oo_k at hp
  rw [if_neg hne] at hp
  refine nm_e ?_
  rw [nx_and]
  have ek : nI (a &&& 2 ^ oo_lb 8 (a ^^^ b)) = 0 ↔ a / 2 ^ oo_lb 8 (a ^^^ b) % 2 = 0 := by
    rw [← oo_and a ha _ t2, ← nI_0]
    exact nI_eq (Nat.lt_of_le_of_lt Nat.and_le_left (by omega)) (by omega)
  refine ek_if ek (fun z => ?_) (fun z => ?_)
  · rw [if_neg (by omega)] at hp
    unfold wX_headOrder_105
    refine br_t rfl ?_
    unfold wX_headOrder_118
    have h3 := oo_t3 _ t2 a ha z
    refine pk_le a (2 ^ oo_lb 8 (a ^^^ b)) (fun hle => ?_) (fun hlt => ?_)
    · rw [if_pos (h3.mp hle)] at hp
      unfold wX_headOrder_132
      exact br_t rfl hp
    · rw [if_neg (fun e => by have := h3.mpr e; omega)] at hp
      unfold wX_headOrder_132
      exact br_f (by decide) hp
  · rw [if_pos (by omega)] at hp
    unfold wX_headOrder_105
    refine br_f (by decide) ?_
    unfold wX_headOrder_118
    have h3 := oo_t3 _ t2 b hb (by omega)
    refine pk_le b (2 ^ oo_lb 8 (a ^^^ b)) (fun hle => ?_) (fun hlt => ?_)
    · rw [if_pos (h3.mp hle)] at hp
      unfold wX_headOrder_132
      exact br_f (by decide) hp
    · rw [if_neg (fun e => by have := h3.mpr e; omega)] at hp
      unfold wX_headOrder_132
      exact br_t rfl hp
