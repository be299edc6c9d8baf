section
theorem pk_us {f : Nat → Int32} {k : Nat} {x : Int32} : upd f k x k = x := if_pos rfl
theorem pk_un {f : Nat → Int32} {k j : Nat} {x : Int32} (h : j ≠ k) : upd f k x j = f j := if_neg h
theorem pk_uLs {f : Nat → Int64} {k : Nat} {x : Int64} : vp_updL f k x k = x := if_pos rfl
theorem pk_uLn {f : Nat → Int64} {k j : Nat} {x : Int64} (h : j ≠ k) : vp_updL f k x j = f j := if_neg h
theorem pk_sub {a b : Nat} (h : b ≤ a) : nI a - nI b = nI (a - b) := by
  obtain ⟨c, rfl⟩ : ∃ c, a = c + b := ⟨a - b, by omega⟩
  rw [← nI_add, Int32.add_sub_cancel, Nat.add_sub_cancel]
theorem pk_m1 (n : Nat) : nI (n + 1) + (-1) = nI n := by
  rw [← nI_1, Int32.add_assoc, show (1 : Int32) + (-1) = 0 from rfl, Int32.add_zero]
theorem pk_mul (a b : Nat) : nI a * nI b = nI (a * b) := (Int32.ofNat_mul a b).symm
theorem pk_div {a d : Nat} (ha : a < 2 ^ 31) (h0 : 0 < d) (hd : d < 2 ^ 31) : nI a / nI d = nI (a / d) := by
  apply Int32.toInt_inj.mp
  rw [lg_idiv_nonneg (by rw [nI_toInt ha]; omega) (by rw [nI_toInt hd]; omega), nI_toInt ha, nI_toInt hd, nI_toInt (Nat.lt_of_le_of_lt (Nat.div_le_self a d) ha)]
  first | rfl | exact (Int.natCast_ediv _ _).symm
theorem pk_rem {a d : Nat} (ha : a < 2 ^ 31) (h0 : 0 < d) (hd : d < 2 ^ 31) : nI a - nI a / nI d * nI d = nI (a % d) := by
  rw [pk_div ha h0 hd, pk_mul, pk_sub (Nat.div_mul_le_self a d)]
  exact congrArg nI (by have := Nat.div_add_mod' a d; omega)
theorem pk_sub_toInt {a b : Nat} (ha : a < 2 ^ 30) (hb : b < 2 ^ 30) : (nI a - nI b).toInt = (a : Int) - b := by
  rw [Int32.toInt_sub, nI_toInt (by omega), nI_toInt (by omega)]
  exact Int.bmod_eq_of_le (by omega) (by omega)
theorem pk_sneg {a b : Nat} (hb : b < 2 ^ 30) (h : a < b) : nI a - nI b < 0 := by
  rw [Int32.lt_iff_toInt_lt, pk_sub_toInt (by omega) hb, show (0 : Int32).toInt = 0 from by decide]
  omega
theorem pk_ix (x : Int32) {n : Nat} (hn : n < 2 ^ 31) : x < 0 ∨ nI n ≤ x ∨ ∃ j : Nat, j < n ∧ x = nI j := by
  by_cases h : x < 0
  · exact Or.inl h
  · obtain ⟨j, hj, rfl⟩ := nI_of h
    by_cases h2 : j < n
    · exact Or.inr (Or.inr ⟨j, h2, rfl⟩)
    · exact Or.inr (Or.inl (nI_le (by omega) hj))
theorem pk_le {x y : Int32} {A B : Prop} (a b : Nat) (f : a ≤ b → A) (g : b < a → B) (hx : x = nI a := by rfl) (hy : y = nI b := by rfl) (ha : a < 2 ^ 31 := by omega) (hb : b < 2 ^ 31 := by omega) : (x ≤ y → A) ∧ (¬ x ≤ y → B) := by
  subst hx hy
  rw [nI_leI ha hb]
  exact ⟨f, fun z => g (by omega)⟩
theorem pk_lt {x y : Int32} {A B : Prop} (a b : Nat) (f : a < b → A) (g : b ≤ a → B) (hx : x = nI a := by rfl) (hy : y = nI b := by rfl) (ha : a < 2 ^ 31 := by omega) (hb : b < 2 ^ 31 := by omega) : (x < y → A) ∧ (¬ x < y → B) := by
  subst hx hy
  rw [nI_ltI ha hb]
  exact ⟨f, fun z => g (by omega)⟩
theorem pk_eq {x y : Int32} {A B : Prop} (a b : Nat) (f : a = b → A) (g : a ≠ b → B) (hx : x = nI a := by rfl) (hy : y = nI b := by rfl) (ha : a < 2 ^ 31 := by omega) (hb : b < 2 ^ 31 := by omega) : (x = y → A) ∧ (¬ x = y → B) := by
  subst hx hy
  rw [nI_eq ha hb]
  exact ⟨f, g⟩
theorem pk_in {x : Int32} (n N : Nat) (h : n < N) (hx : x = nI n := by rfl) (hN : N < 2 ^ 31 := by omega) : vp_in x N := by
  subst hx
  exact vp_in_nI h hN
theorem pk_cl {x : Int32} (n : Nat) (hx : x = nI n := by rfl) (h : n < 2 ^ 31 := by omega) : x.toNatClampNeg = n := by
  subst hx
  exact nI_clamp h
theorem pk_tn {n : Nat} (h : n < 2 ^ 32) : (nI n).toBitVec.toNat = n := Nat.mod_eq_of_lt h
theorem pk_and (x : Int32) {m : Int32} (k : Nat) (hm : m.toBitVec.toNat = 2 ^ k - 1) : x &&& m = nI (x.toBitVec.toNat % 2 ^ k) := by
  apply Int32.toBitVec_inj.mp
  apply BitVec.eq_of_toNat_eq
  rw [Int32.toBitVec_and, BitVec.toNat_and, hm, Nat.and_two_pow_sub_one_eq_mod]
  show _ = (BitVec.ofNat 32 _).toNat
  rw [BitVec.toNat_ofNat]
  exact (Nat.mod_eq_of_lt (Nat.lt_of_le_of_lt (Nat.mod_le _ _) x.toBitVec.isLt)).symm
theorem pk_andN {n : Nat} (h : n < 2 ^ 32) {m : Int32} (k : Nat) (hm : m.toBitVec.toNat = 2 ^ k - 1) : nI n &&& m = nI (n % 2 ^ k) := by
  rw [pk_and _ k hm, pk_tn h]
theorem pk_andE (x : Int32) {m : Int32} (k : Nat) (hm : m.toBitVec.toNat = 2 ^ k - 1) : ∃ j : Nat, j < 2 ^ k ∧ x &&& m = nI j := ⟨_, Nat.mod_lt _ (Nat.two_pow_pos k), pk_and x k hm⟩
theorem pk_andIn (x : Int32) {m : Int32} (k : Nat) (hm : m.toBitVec.toNat = 2 ^ k - 1) (hk : k ≤ 30) : vp_in (x &&& m) (2 ^ k) := by
  obtain ⟨j, hj, e⟩ := pk_andE x k hm
  rw [e]
  exact vp_in_nI hj (Nat.lt_of_le_of_lt (Nat.pow_le_pow_right (by decide) hk) (by decide))
theorem pk_shl (a s : Int32) (k : Nat) (hs : (s.toBitVec.smod 32).toNat = k) : (a <<< s).toBitVec.toNat = a.toBitVec.toNat * 2 ^ k % 2 ^ 32 := by
  show (a.toBitVec <<< (s.toBitVec.smod 32).toNat).toNat = _
  rw [hs, BitVec.toNat_shiftLeft, Nat.shiftLeft_eq]
theorem pk_shlN {n : Nat} (s : Int32) (k : Nat) (hs : (s.toBitVec.smod 32).toNat = k) (h : n * 2 ^ k < 2 ^ 32) : nI n <<< s = nI (n * 2 ^ k) := by
  apply Int32.toBitVec_inj.mp
  apply BitVec.eq_of_toNat_eq
  have hn : n < 2 ^ 32 := Nat.lt_of_le_of_lt (Nat.le_mul_of_pos_right n (Nat.two_pow_pos k)) h
  rw [pk_shl _ _ k hs, pk_tn hn, pk_tn h, Nat.mod_eq_of_lt h]
theorem pk_shr (a s : Int32) (k : Nat) (hs : (s.toBitVec.smod 32).toNat = k) : (a >>> s).toInt = a.toInt >>> k := by
  show (a.toBitVec.sshiftRight (s.toBitVec.smod 32).toNat).toInt = _
  rw [hs, BitVec.toInt_sshiftRight]
  rfl
theorem pk_shrN {n : Nat} (h : n < 2 ^ 31) (s : Int32) (k : Nat) (hs : (s.toBitVec.smod 32).toNat = k) : nI n >>> s = nI (n / 2 ^ k) := by
  apply Int32.toInt_inj.mp
  have h2 : n / 2 ^ k ≤ n := Nat.div_le_self _ _
  rw [pk_shr _ _ k hs, nI_toInt h, nI_toInt (by omega), Int.shiftRight_eq_div_pow]
  rfl
theorem pk_lT {n : Nat} (h : n < 2 ^ 63) : (lN n).toInt = (n : Int) := lg_ofNat_toInt h
theorem pk_lLT {a b : Nat} (ha : a < 2 ^ 63) (hb : b < 2 ^ 63) : lN a < lN b ↔ a < b := by
  rw [Int64.lt_iff_toInt_lt, pk_lT ha, pk_lT hb]; omega
theorem pk_lLE {a b : Nat} (ha : a < 2 ^ 63) (hb : b < 2 ^ 63) : lN a ≤ lN b ↔ a ≤ b := by
  rw [Int64.le_iff_toInt_le, pk_lT ha, pk_lT hb]; omega
theorem pk_lEQ {a b : Nat} (ha : a < 2 ^ 63) (hb : b < 2 ^ 63) : lN a = lN b ↔ a = b := by
  rw [← Int64.toInt_inj, pk_lT ha, pk_lT hb]; omega
theorem pk_lOf {x : Int64} (h : ¬ x < 0) : ∃ k : Nat, k < 2 ^ 63 ∧ x = lN k := by
  rw [Int64.lt_iff_toInt_lt] at h
  have h0 : (0 : Int64).toInt = 0 := by decide
  have hx := Int64.toInt_lt x
  refine ⟨x.toInt.toNat, by omega, Int64.toInt_inj.mp ?_⟩
  rw [pk_lT (by omega)]
  omega
theorem pk_lDiv {a b : Nat} (ha : a < 2 ^ 63) (h0 : 0 < b) (hb : b < 2 ^ 63) : lN a / lN b = lN (a / b) := by
  apply Int64.toInt_inj.mp
  rw [lg_ldiv_nonneg (by rw [pk_lT ha]; omega) (by rw [pk_lT hb]; omega), pk_lT ha, pk_lT hb, pk_lT (Nat.lt_of_le_of_lt (Nat.div_le_self a b) ha)]
  rfl
theorem pk_loop {σ : Type} (W : Nat → Nat → σ → Prop) (I : Nat → σ → Prop) (e i0 : Nat) (s : σ) (hi : i0 ≤ e) (h0 : I i0 s) (hx : ∀ n s, I e s → W (n + 1) e s)
    (hs : ∀ n i s, i < e → I i s → (∀ s', I (i + 1) s' → W n (i + 1) s') → W (n + 1) i s) : ∃ n, W n i0 s :=
  ⟨e + 1, loop_i W I e hx hs (e + 1) i0 s hi (by omega) h0⟩
theorem pk_loopD {σ : Type} (W : Nat → Nat → σ → Prop) (I : Nat → σ → Prop) (hx : ∀ n s, I 0 s → W (n + 1) 0 s)
    (hs : ∀ n i s, I (i + 1) s → (∀ s', I i s' → W n i s') → W (n + 1) (i + 1) s) : ∀ (e : Nat) (s : σ), I e s → W (e + 1) e s := by
  intro e
  induction e with
  | zero => exact fun s h => hx 0 s h
  | succ e ih => exact fun s h => hs (e + 1) e s h (fun s' h' => ih s' h')
theorem lp1 {A1 : Type} (W : Nat → A1 → Prop) (I : A1 → Prop) (μ : A1 → Nat) (hs : ∀ (n : Nat) (a1 : A1), I a1 → (∀ (b1 : A1), I b1 → μ b1 < μ a1 → W n b1) → W (n + 1) a1) (a1 : A1) (h : I a1) : ∃ n, W n a1 :=
  loop_m (σ := A1) (fun n s => W n s) (fun s => I s) (fun s => μ s) (fun n s hI hk => hs n s hI (fun b1 h9 hm => hk b1 h9 hm)) a1 h
theorem lp2 {A1 A2 : Type} (W : Nat → A1 → A2 → Prop) (I : A1 → A2 → Prop) (μ : A1 → A2 → Nat) (hs : ∀ (n : Nat) (a1 : A1) (a2 : A2), I a1 a2 → (∀ (b1 : A1) (b2 : A2), I b1 b2 → μ b1 b2 < μ a1 a2 → W n b1 b2) → W (n + 1) a1 a2) (a1 : A1) (a2 : A2) (h : I a1 a2) : ∃ n, W n a1 a2 :=
  loop_m (σ := A1 × A2) (fun n s => W n s.1 s.2) (fun s => I s.1 s.2) (fun s => μ s.1 s.2) (fun n s hI hk => hs n s.1 s.2 hI (fun b1 b2 h9 hm => hk (b1, b2) h9 hm)) (a1, a2) h
theorem lp3 {A1 A2 A3 : Type} (W : Nat → A1 → A2 → A3 → Prop) (I : A1 → A2 → A3 → Prop) (μ : A1 → A2 → A3 → Nat) (hs : ∀ (n : Nat) (a1 : A1) (a2 : A2) (a3 : A3), I a1 a2 a3 → (∀ (b1 : A1) (b2 : A2) (b3 : A3), I b1 b2 b3 → μ b1 b2 b3 < μ a1 a2 a3 → W n b1 b2 b3) → W (n + 1) a1 a2 a3) (a1 : A1) (a2 : A2) (a3 : A3) (h : I a1 a2 a3) : ∃ n, W n a1 a2 a3 :=
  loop_m (σ := A1 × A2 × A3) (fun n s => W n s.1 s.2.1 s.2.2) (fun s => I s.1 s.2.1 s.2.2) (fun s => μ s.1 s.2.1 s.2.2) (fun n s hI hk => hs n s.1 s.2.1 s.2.2 hI (fun b1 b2 b3 h9 hm => hk (b1, b2, b3) h9 hm)) (a1, a2, a3) h
theorem lp4 {A1 A2 A3 A4 : Type} (W : Nat → A1 → A2 → A3 → A4 → Prop) (I : A1 → A2 → A3 → A4 → Prop) (μ : A1 → A2 → A3 → A4 → Nat) (hs : ∀ (n : Nat) (a1 : A1) (a2 : A2) (a3 : A3) (a4 : A4), I a1 a2 a3 a4 → (∀ (b1 : A1) (b2 : A2) (b3 : A3) (b4 : A4), I b1 b2 b3 b4 → μ b1 b2 b3 b4 < μ a1 a2 a3 a4 → W n b1 b2 b3 b4) → W (n + 1) a1 a2 a3 a4) (a1 : A1) (a2 : A2) (a3 : A3) (a4 : A4) (h : I a1 a2 a3 a4) : ∃ n, W n a1 a2 a3 a4 :=
  loop_m (σ := A1 × A2 × A3 × A4) (fun n s => W n s.1 s.2.1 s.2.2.1 s.2.2.2) (fun s => I s.1 s.2.1 s.2.2.1 s.2.2.2) (fun s => μ s.1 s.2.1 s.2.2.1 s.2.2.2) (fun n s hI hk => hs n s.1 s.2.1 s.2.2.1 s.2.2.2 hI (fun b1 b2 b3 b4 h9 hm => hk (b1, b2, b3, b4) h9 hm)) (a1, a2, a3, a4) h
theorem lp5 {A1 A2 A3 A4 A5 : Type} (W : Nat → A1 → A2 → A3 → A4 → A5 → Prop) (I : A1 → A2 → A3 → A4 → A5 → Prop) (μ : A1 → A2 → A3 → A4 → A5 → Nat) (hs : ∀ (n : Nat) (a1 : A1) (a2 : A2) (a3 : A3) (a4 : A4) (a5 : A5), I a1 a2 a3 a4 a5 → (∀ (b1 : A1) (b2 : A2) (b3 : A3) (b4 : A4) (b5 : A5), I b1 b2 b3 b4 b5 → μ b1 b2 b3 b4 b5 < μ a1 a2 a3 a4 a5 → W n b1 b2 b3 b4 b5) → W (n + 1) a1 a2 a3 a4 a5) (a1 : A1) (a2 : A2) (a3 : A3) (a4 : A4) (a5 : A5) (h : I a1 a2 a3 a4 a5) : ∃ n, W n a1 a2 a3 a4 a5 :=
  loop_m (σ := A1 × A2 × A3 × A4 × A5) (fun n s => W n s.1 s.2.1 s.2.2.1 s.2.2.2.1 s.2.2.2.2) (fun s => I s.1 s.2.1 s.2.2.1 s.2.2.2.1 s.2.2.2.2) (fun s => μ s.1 s.2.1 s.2.2.1 s.2.2.2.1 s.2.2.2.2) (fun n s hI hk => hs n s.1 s.2.1 s.2.2.1 s.2.2.2.1 s.2.2.2.2 hI (fun b1 b2 b3 b4 b5 h9 hm => hk (b1, b2, b3, b4, b5) h9 hm)) (a1, a2, a3, a4, a5) h
theorem lp6 {A1 A2 A3 A4 A5 A6 : Type} (W : Nat → A1 → A2 → A3 → A4 → A5 → A6 → Prop) (I : A1 → A2 → A3 → A4 → A5 → A6 → Prop) (μ : A1 → A2 → A3 → A4 → A5 → A6 → Nat) (hs : ∀ (n : Nat) (a1 : A1) (a2 : A2) (a3 : A3) (a4 : A4) (a5 : A5) (a6 : A6), I a1 a2 a3 a4 a5 a6 → (∀ (b1 : A1) (b2 : A2) (b3 : A3) (b4 : A4) (b5 : A5) (b6 : A6), I b1 b2 b3 b4 b5 b6 → μ b1 b2 b3 b4 b5 b6 < μ a1 a2 a3 a4 a5 a6 → W n b1 b2 b3 b4 b5 b6) → W (n + 1) a1 a2 a3 a4 a5 a6) (a1 : A1) (a2 : A2) (a3 : A3) (a4 : A4) (a5 : A5) (a6 : A6) (h : I a1 a2 a3 a4 a5 a6) : ∃ n, W n a1 a2 a3 a4 a5 a6 :=
  loop_m (σ := A1 × A2 × A3 × A4 × A5 × A6) (fun n s => W n s.1 s.2.1 s.2.2.1 s.2.2.2.1 s.2.2.2.2.1 s.2.2.2.2.2) (fun s => I s.1 s.2.1 s.2.2.1 s.2.2.2.1 s.2.2.2.2.1 s.2.2.2.2.2) (fun s => μ s.1 s.2.1 s.2.2.1 s.2.2.2.1 s.2.2.2.2.1 s.2.2.2.2.2) (fun n s hI hk => hs n s.1 s.2.1 s.2.2.1 s.2.2.2.1 s.2.2.2.2.1 s.2.2.2.2.2 hI (fun b1 b2 b3 b4 b5 b6 h9 hm => hk (b1, b2, b3, b4, b5, b6) h9 hm)) (a1, a2, a3, a4, a5, a6) h
theorem pk_least (P : Nat → Prop) (h : ∃ k, P k) : ∃ k, P k ∧ ∀ j, j < k → ¬ P j := by
  obtain ⟨k, hk⟩ := h
  induction k using Nat.strongRecOn with
  | ind k ih =>
    by_cases e : ∃ j, j < k ∧ P j
    · obtain ⟨j, hj, pj⟩ := e
      exact ih j hj pj
    · exact ⟨k, hk, fun j hj pj => e ⟨j, hj, pj⟩⟩
theorem pk_mu {x : Int32} {L : Nat} (h0 : ¬ x < 0) (h : ¬ nI L ≤ x) (hL : L < 2 ^ 31) : ∃ j : Nat, j < L ∧ x = nI j ∧ x + 1 = nI (j + 1) ∧ x.toNatClampNeg = j ∧ L - (x + 1).toNatClampNeg < L - x.toNatClampNeg := by
  obtain ⟨j, hj, rfl⟩ := nI_of h0
  have hl : j < L := Nat.not_le.mp fun q => h (nI_le q hj)
  refine ⟨j, hl, rfl, nI_1 j, nI_clamp hj, ?_⟩
  rw [nI_1, nI_clamp (by omega), nI_clamp hj]
  omega
theorem u_tn {n : Nat} (h : n < 2 ^ 64) : (UInt64.ofNat n).toNat = n := Nat.mod_eq_of_lt h
theorem s_l : ∀ n, n < 32 → ((nI n &&& 31).toBitVec.smod 32).toNat = n := by decide +kernel
theorem nx_and (a b : Nat) : nI a &&& nI b = nI (a &&& b) := by
  apply Int32.toBitVec_inj.1
  show BitVec.ofNat 32 a &&& BitVec.ofNat 32 b = BitVec.ofNat 32 (a &&& b)
  apply BitVec.eq_of_getLsbD_eq
  intro i hi
  simp [hi]
theorem nx_xor (a b : Nat) : nI a ^^^ nI b = nI (a ^^^ b) := by
  apply Int32.toBitVec_inj.1
  show BitVec.ofNat 32 a ^^^ BitVec.ofNat 32 b = BitVec.ofNat 32 (a ^^^ b)
  apply BitVec.eq_of_getLsbD_eq
  intro i hi
  simp [hi]
theorem wb_tb (n : Nat) : (lN n).toBitVec = BitVec.ofNat 64 n := rfl
theorem wb_inj {a b : Int64} (h : a.toBitVec = b.toBitVec) : a = b := Int64.toBitVec_inj.mp h
theorem wb_tn {n : Nat} (h : n < 2 ^ 64) : (lN n).toBitVec.toNat = n := by rw [wb_tb, BitVec.toNat_ofNat, Nat.mod_eq_of_lt h]
theorem wb_of (x : Int64) : ∃ n, n < 2 ^ 64 ∧ x = lN n := ⟨x.toBitVec.toNat, x.toBitVec.isLt, wb_inj (by rw [wb_tb]; simp)⟩
theorem wb_of32 (x : Int32) : ∃ n, n < 2 ^ 32 ∧ x = nI n := ⟨x.toBitVec.toNat, x.toBitVec.isLt, Int32.toBitVec_inj.mp (by show _ = BitVec.ofNat 32 _; simp)⟩
theorem wb_c : ∀ k, k < 64 → ((nI k).toInt64 &&& 63) = lN k := by decide +kernel
theorem wb_sm : ∀ k, k < 64 → (BitVec.ofNat 64 k).smod 64 = BitVec.ofNat 64 k := by decide +kernel
theorem wb_pw {a b : Nat} (h : a ≤ b) : 2 ^ b = 2 ^ a * 2 ^ (b - a) := by rw [← Nat.pow_add]; congr 1; omega
theorem wb_lt2 {a b : Nat} (h : a < b) : 2 ^ a < 2 ^ b := Nat.pow_lt_pow_right (by decide) h
theorem wb_mod (n : Nat) : lN n = lN (n % 2 ^ 64) := wb_inj (by rw [wb_tb, wb_tb]; apply BitVec.eq_of_toNat_eq; rw [BitVec.toNat_ofNat, BitVec.toNat_ofNat, Nat.mod_mod])
theorem wb_shl (n : Nat) {k : Nat} (hk : k < 64) : lN n <<< ((nI k).toInt64 &&& 63) = lN (n * 2 ^ k) := by
  rw [wb_c k hk]
  apply wb_inj
  rw [Int64.toBitVec_shiftLeft, wb_tb, wb_tb, wb_tb, wb_sm k hk]
  apply BitVec.eq_of_toNat_eq
  rw [BitVec.shiftLeft_eq', BitVec.toNat_shiftLeft, BitVec.toNat_ofNat, BitVec.toNat_ofNat, BitVec.toNat_ofNat, Nat.mod_eq_of_lt (show k < 2 ^ 64 by omega), Nat.shiftLeft_eq, Nat.mul_mod, Nat.mod_mod, ← Nat.mul_mod]
theorem wb_and {a b : Nat} (ha : a < 2 ^ 64) (hb : b < 2 ^ 64) : lN a &&& lN b = lN (a &&& b) := by
  apply wb_inj
  rw [Int64.toBitVec_and, wb_tb, wb_tb, wb_tb]
  apply BitVec.eq_of_toNat_eq
  rw [BitVec.toNat_and, BitVec.toNat_ofNat, BitVec.toNat_ofNat, BitVec.toNat_ofNat, Nat.mod_eq_of_lt ha, Nat.mod_eq_of_lt hb, Nat.mod_eq_of_lt (Nat.and_lt_two_pow _ hb)]
theorem wb_or {a b : Nat} (ha : a < 2 ^ 64) (hb : b < 2 ^ 64) : lN a ||| lN b = lN (a ||| b) := by
  apply wb_inj
  rw [Int64.toBitVec_or, wb_tb, wb_tb, wb_tb]
  apply BitVec.eq_of_toNat_eq
  rw [BitVec.toNat_or, BitVec.toNat_ofNat, BitVec.toNat_ofNat, BitVec.toNat_ofNat, Nat.mod_eq_of_lt ha, Nat.mod_eq_of_lt hb, Nat.mod_eq_of_lt (Nat.or_lt_two_pow ha hb)]
theorem wb_mask {n k : Nat} (hn : n < 2 ^ 64) (hk : k < 64) : lN n &&& lN (2 ^ k - 1) = lN (n % 2 ^ k) := by
  rw [wb_and hn (by have := wb_lt2 hk; omega), Nat.and_two_pow_sub_one_eq_mod]
theorem g_or {k p a b : Nat} (hp : 2 ^ k = p) (ha : a < p) (h : b * p + a < 2 ^ 64) : lN (b * p) ||| lN a = lN (b * p + a) := by
  subst hp
  have h1 : b * 2 ^ k ||| a = b * 2 ^ k + a := by rw [← Nat.shiftLeft_eq, Nat.shiftLeft_add_eq_or_of_lt ha]
  have h3 : UInt64.ofNat (b * 2 ^ k) ||| UInt64.ofNat a = UInt64.ofNat (b * 2 ^ k + a) := UInt64.toNat_inj.mp (by rw [UInt64.toNat_or, u_tn (by omega), u_tn (by omega), u_tn h, h1])
  have h2 := congrArg UInt64.toInt64 h3
  exact h2
theorem pf_lI {a : Nat} (h : a < 2 ^ 63) : (lN a).toInt = (a : Int) := lg_ofNat_toInt h
theorem pf_shr {a d : Nat} {D : Int64} (hD : (D.toBitVec.smod 64).toNat = d) (h : a < 2 ^ 62) : lN a >>> D = lN (a / 2 ^ d) := by
  have hd : a / 2 ^ d ≤ a := Nat.div_le_self _ _
  apply Int64.toInt_inj.mp
  have e : (lN a >>> D).toInt = (lN a).toInt >>> d := by
    rw [← hD]
    exact BitVec.toInt_sshiftRight ..
  rw [e, Int.shiftRight_eq_div_pow, pf_lI (by omega), pf_lI (by omega)]
  rfl
theorem pf_andw (x : Int64) : ∃ m, m < 2 ^ 32 ∧ x &&& 4294967295 = lN m := ⟨x.toBitVec.toNat % 2 ^ 32, Nat.mod_lt _ (by decide), Int64.toBitVec_inj.mp (BitVec.eq_of_toNat_eq (by
  show (x.toBitVec &&& 4294967295#64).toNat = (BitVec.ofNat 64 (x.toBitVec.toNat % 2 ^ 32)).toNat
  rw [BitVec.toNat_and, show (4294967295#64).toNat = 2 ^ 32 - 1 from by decide, Nat.and_two_pow_sub_one_eq_mod, BitVec.toNat_ofNat]
  omega))⟩
/-! ===== Y's longs: kind in the upper half, number or index in the lower ===== -/
def yy_t (k : Nat) (x : Int32) : Int64 := lN (k * 4294967296 + x.toBitVec.toNat)
def yy_k (w : Int64) : Nat := w.toBitVec.toNat / 4294967296
theorem yy_kt {k : Nat} (hk : k < 16) (x : Int32) : yy_k (yy_t k x) = k := by
  have hx := x.toBitVec.isLt
  unfold yy_k yy_t
  rw [wb_tn (by omega)]
  omega
theorem yy_xt (k : Nat) (x : Int32) : (yy_t k x).toInt32 = x := by
  unfold yy_t
  rw [lN_i]
  apply Int32.toBitVec_inj.mp
  show BitVec.ofNat 32 (k * 4294967296 + x.toBitVec.toNat) = x.toBitVec
  apply BitVec.eq_of_toNat_eq
  rw [BitVec.toNat_ofNat]
  have hx := x.toBitVec.isLt
  omega
theorem yy_st {k : Nat} (hk : k < 16) (x : Int32) {D : Int64} (hD : (D.toBitVec.smod 64).toNat = 32) : (yy_t k x >>> D).toInt32 = nI k := by
  have hx := x.toBitVec.isLt
  unfold yy_t
  rw [pf_shr hD (by omega), lN_i]
  have e : (k * 4294967296 + x.toBitVec.toNat) / 2 ^ 32 = k := by omega
  rw [e]
theorem yy_mk (x : Int32) : x.toInt64 &&& 4294967295 = lN x.toBitVec.toNat := by
  apply wb_inj
  apply BitVec.eq_of_toNat_eq
  rw [Int64.toBitVec_and, Int32.toBitVec_toInt64]
  show (BitVec.signExtend 64 x.toBitVec &&& 4294967295#64).toNat = _
  rw [BitVec.toNat_and, show (4294967295#64).toNat = 2 ^ 32 - 1 from by decide, Nat.and_two_pow_sub_one_eq_mod, BitVec.toNat_signExtend, wb_tb, BitVec.toNat_ofNat, BitVec.toNat_setWidth]
  have hx := x.toBitVec.isLt
  split <;> omega
theorem yy_mt {k : Nat} (hk : k < 16) (x : Int32) : ((nI k).toInt64 <<< ((nI 32).toInt64 &&& 63)) ||| (x.toInt64 &&& 4294967295) = yy_t k x := by
  have hx := x.toBitVec.isLt
  rw [nI_l (by omega), wb_shl k (by omega), yy_mk]
  exact g_or (k := 32) (p := 2 ^ 32) rfl hx (by omega)
theorem yy_0 : (0 : Int64) = yy_t 0 0 := by decide +kernel
theorem yy_inj {k k' : Nat} {x x' : Int32} (hk : k < 16) (hk' : k' < 16) (h : yy_t k x = yy_t k' x') : k = k' ∧ x = x' :=
  ⟨by rw [← yy_kt hk x, h, yy_kt hk' x'], by rw [← yy_xt k x, h, yy_xt]⟩
/-! ===== sums ===== -/
def vv_sm (f : Nat → Nat) : Nat → Nat
  | 0 => 0
  | n + 1 => vv_sm f n + f n
theorem vv_sm_c {f g : Nat → Nat} : ∀ n, (∀ i, i < n → f i = g i) → vv_sm f n = vv_sm g n
  | 0, _ => rfl
  | n + 1, h => by
    rw [vv_sm, vv_sm, vv_sm_c n (fun i hi => h i (by omega)), h n (by omega)]
theorem vv_sm_le {f : Nat → Nat} {b : Nat} : ∀ n, (∀ i, i < n → f i ≤ b) → vv_sm f n ≤ n * b
  | 0, _ => by simp [vv_sm]
  | n + 1, h => by
    have h1 := vv_sm_le n (fun i hi => h i (by omega))
    have h2 := h n (by omega)
    rw [vv_sm, Nat.succ_mul]
    omega
theorem ek_if {c d A B : Prop} (e : c ↔ d) (f : d → A) (g : ¬ d → B) : (c → A) ∧ (¬ c → B) := ⟨fun h => f (e.mp h), fun h => g (fun z => h (e.mpr z))⟩
end
section
/-! ===== values: what a slot of X, a long of Y unfold to ===== -/
abbrev vv_L : Type := Int32 × Int32 × Int32 × Int32
def vv_x (K N Z D P : Nat → Int32) : List Nat → Nat → Option vv_L
  | [], s => some (K s, N s, Z s, D s)
  | i :: p, s => if i < (Z s).toNatClampNeg then vv_x K N Z D P p (P (s * 10 + i)).toNatClampNeg else none
def vv_y (o l k d : Nat → Int32) (pl : Nat → Int64) : List Nat → Int64 → Option vv_L
  | [], w => some (if yy_k w < 4 then (nI (yy_k w), w.toInt32, 0, 0) else (nI (yy_k w), k w.toInt32.toNatClampNeg, l w.toInt32.toNatClampNeg, d w.toInt32.toNatClampNeg))
  | i :: p, w => if yy_k w < 4 then none else if i < (l w.toInt32.toNatClampNeg).toNatClampNeg then vv_y o l k d pl p (pl ((o w.toInt32.toNatClampNeg).toNatClampNeg + i)) else none
/-- a long of Y that may stand in a value -/
def vv_vy (mk : Nat) (w : Int64) : Prop := ∃ k x, k ≤ 5 ∧ w = yy_t k x ∧ (4 ≤ k → ∃ j, j < mk ∧ x = nI j)
/-- Y's composites: their places lie within the pool, and hold values -/
def vv_cy (mk pd : Nat) (o l : Nat → Int32) (pl : Nat → Int64) : Prop := mk ≤ 760 ∧ pd ≤ 8200 ∧ ∀ j, j < mk → ∃ a b, o j = nI a ∧ l j = nI b ∧ b ≤ 10 ∧ a + b ≤ pd ∧ ∀ i, i < b → vv_vy mk (pl (a + i))
/-- the most items a value of a depth has -/
def vv_bd : Nat → Nat
  | 0 => 1
  | d + 1 => 12 + 10 * vv_bd d
def vv_pc (m : Nat) (b : Nat) : Nat := vv_sm (fun i => m / 2 ^ i % 2) b
/-- a slot of X that holds a whole value -/
def vv_lx (V : Nat → Prop) (K N Z D I W P : Nat → Int32) (s : Nat) : Prop :=
  (∃ k, k ≤ 3 ∧ K s = nI k ∧ (k < 3 → N s = 0) ∧ Z s = 0 ∧ D s = 0 ∧ I s = 1 ∧ W s = 1) ∨
  (∃ k z d, (k = 4 ∨ k = 5) ∧ K s = nI k ∧ Z s = nI z ∧ z ≤ 10 ∧ D s = nI (d + 1) ∧ d < 4 ∧
    (∀ i, i < z → ∃ c, P (s * 10 + i) = nI c ∧ c < 653 ∧ V c ∧ (s < 53 → c < 53) ∧ ∃ e, e ≤ d ∧ D c = nI e) ∧
    (k = 4 → N s = 0) ∧ (k = 5 → ∃ m, m < 256 ∧ N s = nI m ∧ z = vv_pc m 8) ∧
    I s = nI (2 + vv_sm (fun i => k - 4 + (I (P (s * 10 + i)).toNatClampNeg).toNatClampNeg) z) ∧
    W s = nI (1 + vv_sm (fun i => (W (P (s * 10 + i)).toNatClampNeg).toNatClampNeg) z))
def vv_ox (V : Nat → Prop) (K N Z D I W P : Nat → Int32) : Prop := ∀ s, V s → s < 653 ∧ vv_lx V K N Z D I W P s
section
variable {V V' : Nat → Prop} {K N Z D I W P K' N' Z' D' I' W' P' : Nat → Int32} {o l k d o' l' k' d' : Nat → Int32} {pl pl' : Nat → Int64} {mk mk' pd pd' : Nat}
/-- what a valid slot is, cut short: its size and its places -/
theorem vv_ox_z (h : vv_ox V K N Z D I W P) {s : Nat} (hs : V s) : ∃ z, z ≤ 10 ∧ Z s = nI z ∧ ∀ i, i < z → ∃ c, P (s * 10 + i) = nI c ∧ c < 653 ∧ V c := by
  obtain ⟨_, h | h⟩ := h s hs
  · obtain ⟨k, _, _, _, hz, _⟩ := h
    exact ⟨0, by omega, hz, fun i hi => absurd hi (by omega)⟩
  · obtain ⟨k, z, d, _, _, hz, hz10, _, _, hc, _⟩ := h
    exact ⟨z, hz10, hz, fun i hi => by
      obtain ⟨c, h1, h2, h3, _⟩ := hc i hi
      exact ⟨c, h1, h2, h3⟩⟩
/-- unfolding doesn't see what happens outside a closed set -/
theorem vv_x_st (h : vv_ox V K N Z D I W P) (e : ∀ s, V s → K' s = K s ∧ N' s = N s ∧ Z' s = Z s ∧ D' s = D s ∧ ∀ i, i < 10 → P' (s * 10 + i) = P (s * 10 + i)) : ∀ p s, V s → vv_x K' N' Z' D' P' p s = vv_x K N Z D P p s := by
  intro p
  induction p with
  | nil =>
    intro s hs
    obtain ⟨a, b, c, d, _⟩ := e s hs
    simp only [vv_x, a, b, c, d]
  | cons i p ih =>
    intro s hs
    obtain ⟨_, _, c, _, f⟩ := e s hs
    obtain ⟨z, hz, ez, hc⟩ := vv_ox_z h hs
    simp only [vv_x]
    rw [c, ez, nI_clamp (by omega)]
    by_cases hi : i < z
    · obtain ⟨q, e1, e2, e3⟩ := hc i hi
      rw [if_pos hi, if_pos hi, f i (by omega), e1, nI_clamp (by omega)]
      exact ih q e3
    · rw [if_neg hi, if_neg hi]
theorem vv_vy_up (h : mk ≤ mk') {w : Int64} (hw : vv_vy mk w) : vv_vy mk' w := by
  obtain ⟨k, x, a, b, c⟩ := hw
  exact ⟨k, x, a, b, fun z => by
    obtain ⟨j, hj, e⟩ := c z
    exact ⟨j, by omega, e⟩⟩
theorem vv_y_st (h : vv_cy mk pd o l pl) (e : ∀ j, j < mk → o' j = o j ∧ l' j = l j ∧ k' j = k j ∧ d' j = d j ∧ ∀ a b, o j = nI a → l j = nI b → b ≤ 10 → a + b ≤ pd → ∀ i, i < b → pl' (a + i) = pl (a + i)) : ∀ p w, vv_vy mk w → vv_y o' l' k' d' pl' p w = vv_y o l k d pl p w := by
  intro p
  induction p with
  | nil =>
    intro w hw
    obtain ⟨κ, x, h5, rfl, hq⟩ := hw
    simp only [vv_y, yy_kt (show κ < 16 by omega), yy_xt]
    by_cases h4 : κ < 4
    · rw [if_pos h4, if_pos h4]
    · obtain ⟨j, hj, rfl⟩ := hq (by omega)
      obtain ⟨hm, _⟩ := h
      obtain ⟨a, b, c, f, _⟩ := e j hj
      rw [if_neg h4, if_neg h4, nI_clamp (by omega), b, c, f]
  | cons i p ih =>
    intro w hw
    obtain ⟨κ, x, h5, rfl, hq⟩ := hw
    simp only [vv_y, yy_kt (show κ < 16 by omega), yy_xt]
    by_cases h4 : κ < 4
    · rw [if_pos h4, if_pos h4]
    · obtain ⟨j, hj, rfl⟩ := hq (by omega)
      obtain ⟨hm, hp, hc⟩ := h
      obtain ⟨e1, e2, _, _, e5⟩ := e j hj
      obtain ⟨a, b, ha, hb, hb10, hab, hv⟩ := hc j hj
      rw [if_neg h4, if_neg h4, nI_clamp (by omega), e2, e1, ha, hb, nI_clamp (by omega), nI_clamp (by omega)]
      by_cases hi : i < b
      · rw [if_pos hi, if_pos hi, e5 a b ha hb hb10 hab i hi]
        exact ih _ (hv i hi)
      · rw [if_neg hi, if_neg hi]
/-- a slot of X and a long of Y hold the same value -/
def vv_R (V : Nat → Prop) (K N Z D P : Nat → Int32) (mk : Nat) (o l k d : Nat → Int32) (pl : Nat → Int64) (s : Int32) (w : Int64) : Prop :=
  ∃ n, s = nI n ∧ n < 653 ∧ V n ∧ vv_vy mk w ∧ ∀ p, vv_x K N Z D P p n = vv_y o l k d pl p w
theorem vv_R_up (hx : vv_ox V K N Z D I W P) (hy : vv_cy mk pd o l pl)
    (ex : ∀ s, V s → V' s ∧ K' s = K s ∧ N' s = N s ∧ Z' s = Z s ∧ D' s = D s ∧ ∀ i, i < 10 → P' (s * 10 + i) = P (s * 10 + i))
    (hm : mk ≤ mk') (ey : ∀ j, j < mk → o' j = o j ∧ l' j = l j ∧ k' j = k j ∧ d' j = d j ∧ ∀ a b, o j = nI a → l j = nI b → b ≤ 10 → a + b ≤ pd → ∀ i, i < b → pl' (a + i) = pl (a + i))
    {s : Int32} {w : Int64} (h : vv_R V K N Z D P mk o l k d pl s w) : vv_R V' K' N' Z' D' P' mk' o' l' k' d' pl' s w := by
  obtain ⟨n, e, hn, hv, hw, h⟩ := h
  exact ⟨n, e, hn, (ex n hv).1, vv_vy_up hm hw, fun p => by
    rw [vv_x_st hx (fun s hs => (ex s hs).2) p n hv, vv_y_st hy ey p w hw]
    exact h p⟩
/-- what a pair of like values is made of -/
theorem vv_R_is (hx : vv_ox V K N Z D I W P) (hy : vv_cy mk pd o l pl) {s : Int32} {w : Int64} (h : vv_R V K N Z D P mk o l k d pl s w) :
    ∃ n κ x, s = nI n ∧ n < 653 ∧ V n ∧ κ ≤ 5 ∧ w = yy_t κ x ∧ K n = nI κ ∧
      ((κ < 4 ∧ N n = x ∧ Z n = 0 ∧ D n = 0) ∨ (4 ≤ κ ∧ ∃ j a b, j < mk ∧ x = nI j ∧ o j = nI a ∧ l j = nI b ∧ b ≤ 10 ∧ a + b ≤ pd ∧ N n = k j ∧ Z n = nI b ∧ D n = d j ∧ ∀ i, i < b → vv_R V K N Z D P mk o l k d pl (P (n * 10 + i)) (pl (a + i)))) := by
  obtain ⟨n, e, hn, hv, ⟨κ, x, h5, rfl, hq⟩, h⟩ := h
  refine ⟨n, κ, x, e, hn, hv, h5, rfl, ?_⟩
  have h0 := h []
  simp only [vv_x, vv_y, yy_kt (show κ < 16 by omega), yy_xt, Option.some.injEq] at h0
  by_cases h4 : κ < 4
  · rw [if_pos h4] at h0
    simp only [Prod.mk.injEq] at h0
    exact ⟨h0.1, Or.inl ⟨h4, h0.2.1, h0.2.2.1, h0.2.2.2⟩⟩
  · obtain ⟨j, hj, rfl⟩ := hq (by omega)
    obtain ⟨hm, hp, hc⟩ := hy
    obtain ⟨a, b, ha, hb, hb10, hab, hvy⟩ := hc j hj
    rw [if_neg h4, nI_clamp (by omega)] at h0
    simp only [Prod.mk.injEq] at h0
    have hZ : Z n = nI b := h0.2.2.1.trans hb
    refine ⟨h0.1, Or.inr ⟨by omega, j, a, b, hj, rfl, ha, hb, hb10, hab, h0.2.1, hZ, h0.2.2.2, fun i hi => ?_⟩⟩
    obtain ⟨z, hz, ez, hcx⟩ := vv_ox_z hx hv
    have hzb : z = b := by
      rw [hZ] at ez
      exact ((nI_eq (by omega) (by omega)).mp ez).symm
    obtain ⟨c, e1, e2, e3⟩ := hcx i (by omega)
    refine ⟨c, e1, e2, e3, hvy i hi, fun p => ?_⟩
    have hp' := h (i :: p)
    simp only [vv_x, vv_y, yy_kt (show κ < 16 by omega), yy_xt] at hp'
    rw [if_neg h4, nI_clamp (by omega), hZ, hb, ha, nI_clamp (show b < 2 ^ 31 by omega), nI_clamp (show a < 2 ^ 31 by omega), if_pos hi, if_pos hi, e1, nI_clamp (by omega)] at hp'
    exact hp'
theorem vv_R_plain {n κ : Nat} {x : Int32} (hn : n < 653) (hv : V n) (hk : κ ≤ 3) (eK : K n = nI κ) (eN : N n = x) (eZ : Z n = 0) (eD : D n = 0) : vv_R V K N Z D P mk o l k d pl (nI n) (yy_t κ x) := by
  refine ⟨n, rfl, hn, hv, ⟨κ, x, by omega, rfl, fun h => absurd h (by omega)⟩, fun p => ?_⟩
  cases p with
  | nil =>
    simp only [vv_x, vv_y, yy_kt (show κ < 16 by omega), yy_xt]
    rw [if_pos (by omega), eK, eN, eZ, eD]
  | cons i p =>
    simp only [vv_x, vv_y, yy_kt (show κ < 16 by omega), yy_xt]
    rw [if_pos (show κ < 4 by omega), eZ, if_neg (by show ¬ i < (nI 0).toNatClampNeg; rw [nI_clamp (by omega)]; omega)]
theorem vv_R_nest {n κ j a b : Nat} (hn : n < 653) (hv : V n) (hk : κ = 4 ∨ κ = 5) (eK : K n = nI κ) (hj : j < mk) (hm : mk ≤ 760) (hb : b ≤ 10) (ha : a < 10000) (eo : o j = nI a) (el : l j = nI b) (eN : N n = k j) (eZ : Z n = nI b) (eD : D n = d j)
    (hc : ∀ i, i < b → vv_R V K N Z D P mk o l k d pl (P (n * 10 + i)) (pl (a + i))) : vv_R V K N Z D P mk o l k d pl (nI n) (yy_t κ (nI j)) := by
  refine ⟨n, rfl, hn, hv, ⟨κ, nI j, by omega, rfl, fun _ => ⟨j, hj, rfl⟩⟩, fun p => ?_⟩
  cases p with
  | nil =>
    simp only [vv_x, vv_y, yy_kt (show κ < 16 by omega), yy_xt]
    rw [if_neg (by omega), nI_clamp (by omega), eK, eN, eZ, eD, el]
  | cons i p =>
    simp only [vv_x, vv_y, yy_kt (show κ < 16 by omega), yy_xt]
    rw [if_neg (show ¬ κ < 4 by omega), nI_clamp (show j < 2 ^ 31 by omega), eZ, el, eo, nI_clamp (show b < 2 ^ 31 by omega), nI_clamp (show a < 2 ^ 31 by omega)]
    by_cases hi : i < b
    · obtain ⟨c, e1, e2, _, _, h⟩ := hc i hi
      rw [if_pos hi, if_pos hi, e1, nI_clamp (by omega), ← h p]
    · rw [if_neg hi, if_neg hi]
end
/-! ===== bounds; deep: paths and their places in preorder ===== -/
def dp_ch (P : Nat → Int32) (s i : Nat) : Nat := (P (s * 10 + i)).toNatClampNeg
theorem vv_bd_up : ∀ {e d : Nat}, e ≤ d → vv_bd e ≤ vv_bd d := by
  intro e d
  induction d with
  | zero =>
    intro h
    have : e = 0 := by omega
    subst this
    exact Nat.le_refl _
  | succ d ih =>
    intro h
    by_cases z : e = d + 1
    · subst z; exact Nat.le_refl _
    · have := ih (by omega)
      rw [vv_bd]
      omega
theorem vv_bd_4 {d : Nat} (h : d ≤ 4) : vv_bd d ≤ 23332 := Nat.le_trans (vv_bd_up h) (by decide)
theorem vv_sm_up {f : Nat → Nat} : ∀ {i z : Nat}, i < z → vv_sm f i + f i ≤ vv_sm f z := by
  intro i z
  induction z with
  | zero => intro h; omega
  | succ z ih =>
    intro h
    rw [vv_sm]
    by_cases e : i = z
    · subst e; exact Nat.le_refl _
    · have := ih (by omega)
      omega
section
variable {V : Nat → Prop} {K N Z D I W P : Nat → Int32}
theorem vv_D (h : vv_ox V K N Z D I W P) {s : Nat} (hs : V s) : ∃ e, e ≤ 4 ∧ D s = nI e := by
  obtain ⟨_, h | h⟩ := h s hs
  · obtain ⟨k, _, _, _, _, hd, _⟩ := h
    exact ⟨0, by omega, hd⟩
  · obtain ⟨k, z, d, _, _, _, _, hd, h4, _⟩ := h
    exact ⟨d + 1, by omega, hd⟩
theorem vv_IW (h : vv_ox V K N Z D I W P) : ∀ e s, V s → (D s).toNatClampNeg ≤ e → e ≤ 4 →
    (∃ i, I s = nI i ∧ 1 ≤ i ∧ i ≤ vv_bd e) ∧ (∃ w, W s = nI w ∧ 1 ≤ w ∧ w ≤ vv_bd e) := by
  intro e
  induction e with
  | zero =>
    intro s hs he h4
    obtain ⟨_, h | h⟩ := h s hs
    · obtain ⟨k, _, _, _, _, _, hi, hw⟩ := h
      exact ⟨⟨1, hi, by decide, by decide⟩, ⟨1, hw, by decide, by decide⟩⟩
    · obtain ⟨k, z, d, _, _, _, _, hd, h4', _⟩ := h
      rw [hd, nI_clamp (by omega)] at he
      omega
  | succ e ih =>
    intro s hs he h4
    obtain ⟨_, hl | hl⟩ := h s hs
    · obtain ⟨k, _, _, _, _, _, hi, hw⟩ := hl
      have : 1 ≤ vv_bd (e + 1) := by rw [vv_bd]; omega
      exact ⟨⟨1, hi, by decide, this⟩, ⟨1, hw, by decide, this⟩⟩
    · obtain ⟨k, z, d, hk, _, _, hz, hd, h4', hc, _, _, hi, hw⟩ := hl
      rw [hd, nI_clamp (by omega)] at he
      have hch : ∀ i, i < z → (∃ q, I (P (s * 10 + i)).toNatClampNeg = nI q ∧ 1 ≤ q ∧ q ≤ vv_bd e) ∧ (∃ w, W (P (s * 10 + i)).toNatClampNeg = nI w ∧ 1 ≤ w ∧ w ≤ vv_bd e) := by
        intro i hiz
        obtain ⟨c, e1, e2, e3, _, q, e4, e5⟩ := hc i hiz
        rw [e1, nI_clamp (by omega)]
        exact ih c e3 (by rw [e5, nI_clamp (by omega)]; omega) (by omega)
      have hb := vv_bd_4 (show e ≤ 4 by omega)
      have s1 : vv_sm (fun i => k - 4 + (I (P (s * 10 + i)).toNatClampNeg).toNatClampNeg) z ≤ z * (1 + vv_bd e) := by
        apply vv_sm_le
        intro i hiz
        obtain ⟨⟨q, e1, e2, e3⟩, _⟩ := hch i hiz
        show k - 4 + (I (P (s * 10 + i)).toNatClampNeg).toNatClampNeg ≤ _
        rw [e1, nI_clamp (by omega)]
        omega
      have s2 : vv_sm (fun i => (W (P (s * 10 + i)).toNatClampNeg).toNatClampNeg) z ≤ z * (1 + vv_bd e) := by
        apply vv_sm_le
        intro i hiz
        obtain ⟨_, q, e1, e2, e3⟩ := hch i hiz
        show (W (P (s * 10 + i)).toNatClampNeg).toNatClampNeg ≤ _
        rw [e1, nI_clamp (by omega)]
        omega
      have s3 : z * (1 + vv_bd e) ≤ 10 * (1 + vv_bd e) := Nat.mul_le_mul_right _ hz
      refine ⟨⟨_, hi, by omega, ?_⟩, ⟨_, hw, by omega, ?_⟩⟩
      · rw [vv_bd]; omega
      · rw [vv_bd]; omega
theorem vv_IW4 (h : vv_ox V K N Z D I W P) {s : Nat} (hs : V s) : (∃ i, I s = nI i ∧ 1 ≤ i ∧ i ≤ 23332) ∧ (∃ w, W s = nI w ∧ 1 ≤ w ∧ w ≤ 23332) := by
  obtain ⟨e, h4, he⟩ := vv_D h hs
  obtain ⟨⟨i, a, b, c⟩, ⟨w, a', b', c'⟩⟩ := vv_IW h e s hs (by rw [he, nI_clamp (by omega)]; exact Nat.le_refl _) h4
  have := vv_bd_4 h4
  exact ⟨⟨i, a, b, by omega⟩, ⟨w, a', b', by omega⟩⟩
def dp_at (P : Nat → Int32) : List Nat → Nat → Nat
  | [], s => s
  | i :: p, s => dp_at P p (dp_ch P s i)
def dp_ok (Z P : Nat → Int32) : List Nat → Nat → Prop
  | [], _ => True
  | i :: p, s => i < (Z s).toNatClampNeg ∧ dp_ok Z P p (dp_ch P s i)
def dp_w (W P : Nat → Int32) (s : Nat) (j : Nat) : Nat := (W (dp_ch P s j)).toNatClampNeg
def dp_ix (W P : Nat → Int32) : List Nat → Nat → Nat
  | [], _ => 0
  | i :: p, s => 1 + vv_sm (dp_w W P s) i + dp_ix W P p (dp_ch P s i)
theorem dp_at_s (P : Nat → Int32) (k : Nat) : ∀ r s, dp_at P (r ++ [k]) s = dp_ch P (dp_at P r s) k
  | [], _ => rfl
  | _ :: r, s => dp_at_s P k r _
theorem dp_ok_s (Z P : Nat → Int32) (k : Nat) : ∀ r s, dp_ok Z P (r ++ [k]) s ↔ dp_ok Z P r s ∧ k < (Z (dp_at P r s)).toNatClampNeg
  | [], s => by simp [dp_ok, dp_at]
  | i :: r, s => by
    have := dp_ok_s Z P k r (dp_ch P s i)
    simp only [List.cons_append, dp_ok, dp_at, this, and_assoc]
theorem dp_ix_s (W P : Nat → Int32) (k : Nat) : ∀ r s, dp_ix W P (r ++ [k]) s = dp_ix W P r s + 1 + vv_sm (dp_w W P (dp_at P r s)) k
  | [], s => by simp [dp_ix, dp_at]
  | i :: r, s => by
    have := dp_ix_s W P k r (dp_ch P s i)
    simp only [List.cons_append, dp_ix, dp_at, this]
    omega
theorem dp_V (h : vv_ox V K N Z D I W P) : ∀ p s, V s → dp_ok Z P p s → V (dp_at P p s)
  | [], _, hs, _ => hs
  | i :: p, s, hs, hp => by
    obtain ⟨z, hz, ez, hc⟩ := vv_ox_z h hs
    obtain ⟨h1, h2⟩ := hp
    rw [ez, nI_clamp (by omega)] at h1
    obtain ⟨c, e1, e2, e3⟩ := hc i h1
    refine dp_V h p _ ?_ h2
    rw [dp_ch, e1, nI_clamp (by omega)]
    exact e3
/-- the number of values that deep has of a value -/
theorem dp_W (h : vv_ox V K N Z D I W P) {s : Nat} (hs : V s) : (W s).toNatClampNeg = 1 + vv_sm (dp_w W P s) (Z s).toNatClampNeg := by
  obtain ⟨_, _, hw⟩ := vv_IW4 h hs
  obtain ⟨w, ew, w1, w2⟩ := vv_IW4 h hs |>.2
  obtain ⟨_, hl | hl⟩ := h s hs
  · obtain ⟨k, _, _, _, hz, _, _, hw⟩ := hl
    rw [hw, hz, show (0 : Int32).toNatClampNeg = 0 from by decide, show (1 : Int32).toNatClampNeg = 1 from by decide]
    rfl
  · obtain ⟨k, z, d, hk, _, hz, hz10, hd, h4', hc, _, _, hi, hw⟩ := hl
    have e : w = 1 + vv_sm (fun i => (W (P (s * 10 + i)).toNatClampNeg).toNatClampNeg) z := by
      have hb : vv_sm (fun i => (W (P (s * 10 + i)).toNatClampNeg).toNatClampNeg) z ≤ z * 23332 := by
        apply vv_sm_le
        intro i hiz
        obtain ⟨c, e1, e2, e3, _⟩ := hc i hiz
        obtain ⟨q, a, b, c'⟩ := (vv_IW4 h e3).2
        show (W (P (s * 10 + i)).toNatClampNeg).toNatClampNeg ≤ _
        rw [e1, nI_clamp (by omega), a, nI_clamp (by omega)]
        exact c'
      have hb2 : z * 23332 ≤ 10 * 23332 := Nat.mul_le_mul_right _ hz10
      rw [hw] at ew
      exact ((nI_eq (by omega) (by omega)).mp ew).symm
    rw [ew, hz, nI_clamp (by omega), nI_clamp (by omega), e]
    rfl
theorem dp_ix_lt (h : vv_ox V K N Z D I W P) : ∀ p s, V s → dp_ok Z P p s → dp_ix W P p s < (W s).toNatClampNeg
  | [], s, hs, _ => by
    rw [dp_W h hs, dp_ix]
    omega
  | i :: p, s, hs, hp => by
    obtain ⟨z, hz, ez, hc⟩ := vv_ox_z h hs
    obtain ⟨h1, h2⟩ := hp
    have h1' := h1
    rw [ez, nI_clamp (by omega)] at h1
    obtain ⟨c, e1, e2, e3⟩ := hc i h1
    have ec : dp_ch P s i = c := by rw [dp_ch, e1, nI_clamp (by omega)]
    have := dp_ix_lt h p _ (by rw [ec]; exact e3) h2
    rw [dp_W h hs, dp_ix]
    have h3 := vv_sm_up (f := dp_w W P s) h1'
    have h4 : dp_w W P s i = (W (dp_ch P s i)).toNatClampNeg := rfl
    omega
/-- a path as Y writes it: base 16 behind a 1 -/
def dp_wy (p : List Nat) : Nat := p.foldl (fun w k => w * 16 + k) 1
theorem dp_wy_s (r : List Nat) (k : Nat) : dp_wy (r ++ [k]) = dp_wy r * 16 + k := by
  simp [dp_wy, List.foldl_append]
theorem dp_wf (p : List Nat) : ∀ a, p.foldl (fun w k => w * 16 + k) a = a * 16 ^ p.length + p.foldl (fun w k => w * 16 + k) 0 := by
  induction p with
  | nil => intro a; simp
  | cons k p ih =>
    intro a
    rw [List.foldl_cons, List.foldl_cons, ih (a * 16 + k), ih (0 * 16 + k), List.length_cons, Nat.pow_succ]
    have e : (a * 16 + k) * 16 ^ p.length = a * (16 ^ p.length * 16) + k * 16 ^ p.length := by
      rw [Nat.add_mul, Nat.mul_assoc, Nat.mul_comm 16]
    rw [e]
    have e2 : (0 * 16 + k) * 16 ^ p.length = k * 16 ^ p.length := by rw [Nat.zero_mul, Nat.zero_add]
    rw [e2]
    omega
theorem dp_wf_lt : ∀ (p : List Nat), (∀ k, k ∈ p → k < 16) → p.foldl (fun w k => w * 16 + k) 0 < 16 ^ p.length
  | [], _ => by simp
  | k :: p, h => by
    have h1 := dp_wf_lt p (fun j hj => h j (List.mem_cons_of_mem _ hj))
    have h2 := h k List.mem_cons_self
    rw [List.foldl_cons, dp_wf, List.length_cons, Nat.pow_succ]
    have h3 : (0 * 16 + k) * 16 ^ p.length ≤ 15 * 16 ^ p.length := Nat.mul_le_mul_right _ (by omega)
    omega
/-- the digits of a way -/
theorem dp_dig (q r : List Nat) (k : Nat) (h : ∀ j, j ∈ r → j < 16) (hk : k < 16) : dp_wy (q ++ k :: r) / 16 ^ r.length % 16 = k := by
  have e : dp_wy (q ++ k :: r) = (dp_wy q * 16 + k) * 16 ^ r.length + r.foldl (fun w k => w * 16 + k) 0 := by
    unfold dp_wy
    rw [List.foldl_append, List.foldl_cons, dp_wf]
  have h1 := dp_wf_lt r h
  have hp : 0 < 16 ^ r.length := Nat.pow_pos (by decide)
  rw [e, Nat.add_comm, Nat.add_mul_div_right _ _ hp, Nat.div_eq_of_lt h1, Nat.zero_add]
  omega
theorem dp_wy_b (p : List Nat) (h : ∀ k, k ∈ p → k < 16) : 16 ^ p.length ≤ dp_wy p ∧ dp_wy p < 2 * 16 ^ p.length := by
  have h1 := dp_wf_lt p h
  unfold dp_wy
  rw [dp_wf]
  omega
end
/-! ===== a slot more ===== -/
section
variable {V V' : Nat → Prop} {K N Z D I W P K' N' Z' D' I' W' P' : Nat → Int32}
/-- two heaps of X are alike on a set of slots -/
def vv_eq (V : Nat → Prop) (K N Z D I W P K' N' Z' D' I' W' P' : Nat → Int32) : Prop :=
  ∀ s, V s → K' s = K s ∧ N' s = N s ∧ Z' s = Z s ∧ D' s = D s ∧ I' s = I s ∧ W' s = W s ∧ ∀ i, i < 10 → P' (s * 10 + i) = P (s * 10 + i)
theorem vv_lx_up (e : vv_eq V K N Z D I W P K' N' Z' D' I' W' P') (hV : ∀ s, V s → V' s) {s : Nat} (hs : V s) (h : vv_lx V K N Z D I W P s) : vv_lx V' K' N' Z' D' I' W' P' s := by
  obtain ⟨e1, e2, e3, e4, e5, e6, e7⟩ := e s hs
  rcases h with ⟨k, h1, h2, h3, h4, h5, h6, h7⟩ | ⟨k, z, d, h1, h2, h3, h4, h5, h6, h7, h8, h9, h10, h11⟩
  · exact Or.inl ⟨k, h1, e1.trans h2, fun q => e2.trans (h3 q), e3.trans h4, e4.trans h5, e5.trans h6, e6.trans h7⟩
  · refine Or.inr ⟨k, z, d, h1, e1.trans h2, e3.trans h3, h4, e4.trans h5, h6, fun i hi => ?_, fun q => e2.trans (h8 q), fun q => ?_, ?_, ?_⟩
    · obtain ⟨c, c1, c2, c3, c4, g, c5, c6⟩ := h7 i hi
      exact ⟨c, (e7 i (by omega)).trans c1, c2, hV c c3, c4, g, c5, (e c c3).2.2.2.1.trans c6⟩
    · obtain ⟨m, a, b, c⟩ := h9 q
      exact ⟨m, a, e2.trans b, c⟩
    · rw [e5, h10]
      congr 2
      apply vv_sm_c
      intro i hi
      obtain ⟨c, c1, c2, c3, _⟩ := h7 i hi
      show k - 4 + (I (P (s * 10 + i)).toNatClampNeg).toNatClampNeg = k - 4 + (I' (P' (s * 10 + i)).toNatClampNeg).toNatClampNeg
      rw [e7 i (by omega), c1, nI_clamp (by omega), (e c c3).2.2.2.2.1]
    · rw [e6, h11]
      congr 2
      apply vv_sm_c
      intro i hi
      obtain ⟨c, c1, c2, c3, _⟩ := h7 i hi
      show (W (P (s * 10 + i)).toNatClampNeg).toNatClampNeg = (W' (P' (s * 10 + i)).toNatClampNeg).toNatClampNeg
      rw [e7 i (by omega), c1, nI_clamp (by omega), (e c c3).2.2.2.2.2.1]
theorem vv_ox_add (h : vv_ox V K N Z D I W P) (e : vv_eq V K N Z D I W P K' N' Z' D' I' W' P') {n : Nat} (hn : n < 653) (hl : vv_lx (fun s => V s ∨ s = n) K' N' Z' D' I' W' P' n) : vv_ox (fun s => V s ∨ s = n) K' N' Z' D' I' W' P' := by
  intro s hs
  rcases hs with hs | rfl
  · exact ⟨(h s hs).1, vv_lx_up e (fun _ z => Or.inl z) hs (h s hs).2⟩
  · exact ⟨hn, hl⟩
theorem vv_ox_eq (h : vv_ox V K N Z D I W P) (e : vv_eq V K N Z D I W P K' N' Z' D' I' W' P') : vv_ox V K' N' Z' D' I' W' P' := fun s hs => ⟨(h s hs).1, vv_lx_up e (fun _ z => z) hs (h s hs).2⟩
theorem vv_eq_x (e : vv_eq V K N Z D I W P K' N' Z' D' I' W' P') : ∀ s, V s → K' s = K s ∧ N' s = N s ∧ Z' s = Z s ∧ D' s = D s ∧ ∀ i, i < 10 → P' (s * 10 + i) = P (s * 10 + i) := fun s hs => by
  obtain ⟨e1, e2, e3, e4, _, _, e7⟩ := e s hs
  exact ⟨e1, e2, e3, e4, e7⟩
/-- stores into a slot outside the set -/
theorem vv_pl {s n i j : Nat} (hne : s ≠ n) (hi : i < 10) (hj : j < 10) : s * 10 + i ≠ n * 10 + j := by omega
/-- the deepest of some values -/
def vv_mx (f : Nat → Nat) : Nat → Nat
  | 0 => 0
  | n + 1 => if vv_mx f n < f n then f n else vv_mx f n
theorem vv_mx_ge {f : Nat → Nat} : ∀ {n i : Nat}, i < n → f i ≤ vv_mx f n := by
  intro n
  induction n with
  | zero => intro i h; omega
  | succ n ih =>
    intro i h
    rw [vv_mx]
    by_cases e : i = n
    · subst e; split <;> omega
    · have := ih (show i < n by omega)
      split <;> omega
theorem vv_mx_le {f : Nat → Nat} {b : Nat} : ∀ {n : Nat}, (∀ i, i < n → f i ≤ b) → vv_mx f n ≤ b := by
  intro n
  induction n with
  | zero => intro h; rw [vv_mx]; omega
  | succ n ih =>
    intro h
    have h1 := ih (fun i hi => h i (by omega))
    have h2 := h n (by omega)
    rw [vv_mx]
    split <;> omega
theorem vv_mx_c {f g : Nat → Nat} : ∀ n, (∀ i, i < n → f i = g i) → vv_mx f n = vv_mx g n
  | 0, _ => rfl
  | n + 1, h => by
    rw [vv_mx, vv_mx, vv_mx_c n (fun i hi => h i (by omega)), h n (by omega)]
end
/-! ===== the order of values, over X's slots ===== -/
def oo_sg (a b : Nat) : Int32 := if a < b then -1 else if b < a then 1 else 0
def oo_l (f : Nat → Int32) (e : Int32) : Nat → Nat → Int32
  | 0, _ => e
  | m + 1, q => if f q = 0 then oo_l f e m (q + 1) else f q
def oo_c (hd : Nat → Nat → Int32) (Z P : Nat → Int32) : Nat → Nat → Nat → Int32
  | 0, s, t => hd s t
  | d + 1, s, t => if hd s t = 0 then oo_l (fun i => oo_c hd Z P d (dp_ch P s i) (dp_ch P t i)) (oo_sg (Z s).toNatClampNeg (Z t).toNatClampNeg) (min (Z s).toNatClampNeg (Z t).toNatClampNeg) 0 else hd s t
theorem oo_sg_r (a : Nat) : oo_sg a a = 0 := by unfold oo_sg; rw [if_neg (by omega), if_neg (by omega)]
theorem oo_l_0 {f : Nat → Int32} : ∀ m q, (∀ i, f i = 0) → oo_l f 0 m q = 0
  | 0, _, _ => rfl
  | m + 1, q, h => by rw [oo_l, if_pos (h q)]; exact oo_l_0 m (q + 1) h
theorem oo_l_c {f g : Nat → Int32} {e : Int32} : ∀ m q, (∀ i, i < q + m → f i = g i) → oo_l f e m q = oo_l g e m q
  | 0, _, _ => rfl
  | m + 1, q, h => by
    rw [oo_l, oo_l, h q (by omega), oo_l_c m (q + 1) (fun i hi => h i (by omega))]
theorem oo_c_r {hd : Nat → Nat → Int32} {Z P : Nat → Int32} (hr : ∀ s, hd s s = 0) : ∀ d s, oo_c hd Z P d s s = 0
  | 0, s => hr s
  | d + 1, s => by
    rw [oo_c, if_pos (hr s), oo_sg_r]
    exact oo_l_0 _ _ (fun i => oo_c_r hr d _)
end
section
/-! ===== frames: links, the path, who rests; X alone ===== -/
def fr_o (pO fP : Nat → Int32) (f : Nat) : Nat := (pO (fP f).toNatClampNeg).toNatClampNeg
def fr_busy (pO fP fA fG : Nat → Int32) (f : Nat) : Prop := (fr_o pO fP f = 16 ∨ fr_o pO fP f = 35) ∧ fA f ≠ -1 ∧ fG f = 0
/-- a child of frame f: a later frame, applied within f, of a part within f's -/
def fr_kid (fP fU : Nat → Int32) (n f : Nat) (x : Int32) : Prop := ∃ c, x = nI c ∧ f < c ∧ c < n ∧ fU c = nI f ∧ (fP c).toNatClampNeg < (fP f).toNatClampNeg
def fr_lk (np n : Nat) (fP fU fR fO fA : Nat → Int32) (f : Nat) : Prop :=
  (∃ q, fP f = nI q ∧ q < np) ∧
  (fO f = -1 ∨ (fr_kid fP fU n f (fO f) ∧ fR (fO f).toNatClampNeg = 0)) ∧
  (fA f = -1 ∨ (fr_kid fP fU n f (fA f) ∧ ((fR (fA f).toNatClampNeg = 0 ∧ fO f = fA f) ∨ ((fR (fA f).toNatClampNeg = 1 ∨ fR (fA f).toNatClampNeg = 2) ∧ fO f ≠ fA f))))
/-- frame p, on the path with another behind it, isn't through -/
def fr_run (pO pX fP fG : Nat → Int32) (p : Nat) : Prop :=
  ((fr_o pO fP p = 16 ∨ fr_o pO fP p = 35) → fG p = 0) ∧ (fr_o pO fP p = 18 → ∃ g m, fG p = nI g ∧ pX (fP p).toNatClampNeg = nI m ∧ g < m ∧ m < 10)
def fr_pa (pO pX fP fU fA fG : Nat → Int32) : List Nat → Prop
  | [] => False
  | [r] => r = 0 ∧ fU 0 = -1
  | c :: p :: l => p < c ∧ fU c = nI p ∧ fA p = nI c ∧ fr_run pO pX fP fG p ∧ fr_pa pO pX fP fU fA fG (p :: l)
def fr_rs (pO fP fA fG : Nat → Int32) (al : Nat → Prop) (l : List Nat) (f : Nat) : Prop :=
  ¬ fr_busy pO fP fA fG f ∧ (fr_o pO fP f ≠ 16 → fr_o pO fP f ≠ 35 → fA f ≠ -1 → al (fA f).toNatClampNeg ∧ (fA f).toNatClampNeg ∉ l)
def fr_X (pO pX : Nat → Int32) (np n : Nat) (fP fU fR fO fA fG : Nat → Int32) (al : Nat → Prop) (l : List Nat) (m : Prop) : Prop :=
  n ≤ 600 ∧ (∀ f, f < n → fr_lk np n fP fU fR fO fA f) ∧ fr_pa pO pX fP fU fA fG l ∧ (∀ f, f ∈ l → al f) ∧ (∀ f, al f → f < n) ∧
  (∀ f, al f → (f ∉ l ∨ (m ∧ l.head? = some f)) → fr_rs pO fP fA fG al l f) ∧
  (∀ f, al f → fr_o pO fP f ≠ 22 → fr_o pO fP f ≠ 32 → fA f ≠ fO f → fO f ≠ -1 → al (fO f).toNatClampNeg ∧ (fO f).toNatClampNeg ∉ l)
section
variable {pO pX fP fU fR fO fA fG fP' fU' fR' fO' fA' fG' : Nat → Int32} {np n : Nat} {al al' : Nat → Prop} {l : List Nat} {m m' : Prop} {c p : Nat}
theorem fr_n1 {k : Nat} (h : k < 600) : nI k ≠ -1 := by
  intro e
  have h1 := congrArg Int32.toInt e
  rw [nI_toInt (by omega)] at h1
  have h2 : (-1 : Int32).toInt = -1 := by decide
  omega
/-- the path falls -/
theorem fr_pa_lt : ∀ (l : List Nat) (c : Nat), fr_pa pO pX fP fU fA fG (c :: l) → ∀ f, f ∈ l → f < c
  | [], _, _ => fun f hf => absurd hf (by simp)
  | p :: l, c, h => by
    obtain ⟨h1, _, _, _, h5⟩ := h
    intro f hf
    rcases List.mem_cons.mp hf with e | e
    · omega
    · have := fr_pa_lt l p h5 f e
      omega
/-- the path is seen by what lies below its head -/
theorem fr_pa_st : ∀ (l : List Nat) (c : Nat), fr_pa pO pX fP fU fA fG (c :: l) → fU' c = fU c →
    (∀ f, f < c → fP' f = fP f ∧ fU' f = fU f ∧ fA' f = fA f ∧ fG' f = fG f) → fr_pa pO pX fP' fU' fA' fG' (c :: l)
  | [], c, h, hc, e => by
    obtain ⟨h1, h2⟩ := h
    subst h1
    exact ⟨rfl, hc.trans h2⟩
  | p :: l, c, h, hc, e => by
    obtain ⟨h1, h2, h3, h4, h5⟩ := h
    obtain ⟨e1, e2, e3, e4⟩ := e p h1
    refine ⟨h1, hc.trans h2, e3.trans h3, ?_, fr_pa_st l p h5 e2 (fun f hf => e f (by omega))⟩
    unfold fr_run fr_o at h4 ⊢
    rw [e1, e4]
    exact h4
theorem fr_X_w (h : fr_X pO pX np n fP fU fR fO fA fG al l m) : fr_X pO pX np n fP fU fR fO fA fG al l False := by
  obtain ⟨h0, h1, h2, h3, h4, h5, h6⟩ := h
  exact ⟨h0, h1, h2, h3, h4, fun f hf hz => h5 f hf (hz.elim Or.inl (fun z => z.1.elim)), h6⟩
theorem fr_X_rest (h : fr_X pO pX np n fP fU fR fO fA fG al (p :: l) False) (hr : fr_rs pO fP fA fG al (p :: l) p) : fr_X pO pX np n fP fU fR fO fA fG al (p :: l) True := by
  obtain ⟨h0, h1, h2, h3, h4, h5, h6⟩ := h
  refine ⟨h0, h1, h2, h3, h4, fun f hf hz => ?_, h6⟩
  rcases hz with z | ⟨_, z⟩
  · exact h5 f hf (Or.inl z)
  · have : p = f := by simpa using z
    subst this
    exact hr
/-- the head is left, resting -/
theorem fr_X_pop (h : fr_X pO pX np n fP fU fR fO fA fG al (c :: p :: l) True) : fr_X pO pX np n fP fU fR fO fA fG al (p :: l) False := by
  obtain ⟨h0, h1, h2, h3, h4, h5, h6⟩ := h
  have hlt := fr_pa_lt _ _ h2
  have sub : ∀ x, x ∉ c :: p :: l → x ∉ p :: l := fun x hx hm => hx (List.mem_cons_of_mem _ hm)
  refine ⟨h0, h1, h2.2.2.2.2, fun f hf => h3 f (List.mem_cons_of_mem _ hf), h4, fun f hf hz => ?_, fun f hf a b d e => ?_⟩
  · have hz' : f ∉ p :: l := hz.elim id (fun z => z.1.elim)
    have hr : fr_rs pO fP fA fG al (c :: p :: l) f := by
      by_cases e : f = c
      · subst e
        exact h5 f hf (Or.inr ⟨trivial, rfl⟩)
      · exact h5 f hf (Or.inl (by
          intro hm
          rcases List.mem_cons.mp hm with z | z
          · exact e z
          · exact hz' z))
    exact ⟨hr.1, fun a b d => ⟨(hr.2 a b d).1, sub _ (hr.2 a b d).2⟩⟩
  · obtain ⟨x, y⟩ := h6 f hf a b d e
    exact ⟨x, sub _ y⟩
/-- the head is left for good -/
theorem fr_X_kill (h : fr_X pO pX np n fP fU fR fO fA fG al (c :: p :: l) m) : fr_X pO pX np n fP fU fR fO fA fG (fun f => al f ∧ f ≠ c) (p :: l) False := by
  obtain ⟨h0, h1, h2, h3, h4, h5, h6⟩ := h
  have hlt := fr_pa_lt _ _ h2
  have hcn : c < n := h4 c (h3 c List.mem_cons_self)
  obtain ⟨hpc, hUc, hAp, _, hpa⟩ := h2
  have hp := hlt p List.mem_cons_self
  have sub : ∀ x, x ∉ c :: p :: l → x ∉ p :: l := fun x hx hm => hx (List.mem_cons_of_mem _ hm)
  refine ⟨h0, h1, hpa, fun f hf => ⟨h3 f (List.mem_cons_of_mem _ hf), fun e => ?_⟩, fun f hf => h4 f hf.1, fun f hf hz => ?_, fun f hf a b d e => ?_⟩
  · subst e
    have := hlt f hf
    omega
  · have hz' : f ∉ p :: l := hz.elim id (fun z => z.1.elim)
    have hr : fr_rs pO fP fA fG al (c :: p :: l) f := h5 f hf.1 (Or.inl (by
      intro hm
      rcases List.mem_cons.mp hm with z | z
      · exact hf.2 z
      · exact hz' z))
    refine ⟨hr.1, fun a b d => ?_⟩
    obtain ⟨x, y⟩ := hr.2 a b d
    exact ⟨⟨x, fun e => y (by rw [e]; exact List.mem_cons_self)⟩, sub _ y⟩
  · obtain ⟨x, y⟩ := h6 f hf.1 a b d e
    exact ⟨⟨x, fun e => y (by rw [e]; exact List.mem_cons_self)⟩, sub _ y⟩
/-- down to a child that stands already -/
theorem fr_X_push (h : fr_X pO pX np n fP fU fR fO fA fG al (p :: l) False) (hA : fA p = nI c) (hc : al c) (hcl : c ∉ p :: l) (hr : fr_run pO pX fP fG p) (hpc : p < c) (hU : fU c = nI p) : fr_X pO pX np n fP fU fR fO fA fG al (c :: p :: l) True := by
  obtain ⟨h0, h1, h2, h3, h4, h5, h6⟩ := h
  have hcn := h4 c hc
  have hpn := h4 p (h3 p List.mem_cons_self)
  -- whose child is c: p's alone
  have one : ∀ f, f < n → ∀ x, fr_kid fP fU n f x → x.toNatClampNeg = c → f = p := by
    intro f hf x hx hxc
    obtain ⟨k, e1, e2, e3, e4, _⟩ := hx
    rw [e1, nI_clamp (by omega)] at hxc
    subst hxc
    rw [hU] at e4
    exact ((nI_eq (by omega) (by omega)).mp e4).symm
  refine ⟨h0, h1, ⟨hpc, hU, hA, hr, h2⟩, fun f hf => ?_, h4, fun f hf hz => ?_, fun f hf a b d e => ?_⟩
  · rcases List.mem_cons.mp hf with z | z
    · subst z; exact hc
    · exact h3 f z
  · have hfn := h4 f hf
    have hfp : f ∉ p :: l := by
      rcases hz with z | ⟨_, z⟩
      · exact fun hm => z (List.mem_cons_of_mem _ hm)
      · have : c = f := by simpa using z
        rw [← this]
        exact hcl
    have hr' := h5 f hf (Or.inl hfp)
    refine ⟨hr'.1, fun a b d => ?_⟩
    obtain ⟨x, y⟩ := hr'.2 a b d
    refine ⟨x, fun hm => ?_⟩
    rcases List.mem_cons.mp hm with z | z
    · rcases (h1 f hfn).2.2 with w | ⟨w, _⟩
      · exact d w
      · have := one f hfn _ w z
        subst this
        exact hfp List.mem_cons_self
    · exact y z
  · obtain ⟨x, y⟩ := h6 f hf a b d e
    have hfn := h4 f hf
    refine ⟨x, fun hm => ?_⟩
    rcases List.mem_cons.mp hm with z | z
    · rcases (h1 f hfn).2.1 with w | ⟨w, _⟩
      · exact e w
      · have := one f hfn _ w z
        subst this
        apply d
        obtain ⟨k, e1, _, e3, _⟩ := w
        rw [e1, nI_clamp (by omega)] at z
        rw [hA, e1, z]
    · exact y z
/-- what lies in the head alone may change -/
theorem fr_X_G (h : fr_X pO pX np n fP fU fR fO fA fG al (p :: l) False) (x : Int32) : fr_X pO pX np n fP fU fR fO fA (upd fG p x) al (p :: l) False := by
  obtain ⟨h0, h1, h2, h3, h4, h5, h6⟩ := h
  refine ⟨h0, h1, fr_pa_st l p h2 rfl (fun f hf => ⟨rfl, rfl, rfl, pk_un (by omega)⟩), h3, h4, fun f hf hz => ?_, h6⟩
  have hz' : f ∉ p :: l := hz.elim id (fun z => z.1.elim)
  have hfp : f ≠ p := fun e => hz' (by rw [e]; exact List.mem_cons_self)
  have := h5 f hf (Or.inl hz')
  unfold fr_rs fr_busy at this ⊢
  rw [pk_un hfp]
  exact this
/-- back to the outer child -/
theorem fr_X_A (h : fr_X pO pX np n fP fU fR fO fA fG al (p :: l) False) (hO : fO p ≠ -1) : fr_X pO pX np n fP fU fR fO (upd fA p (fO p)) fG al (p :: l) False := by
  obtain ⟨h0, h1, h2, h3, h4, h5, h6⟩ := h
  refine ⟨h0, fun f hf => ?_, fr_pa_st l p h2 rfl (fun f hf => ⟨rfl, rfl, pk_un (by omega), rfl⟩), h3, h4, fun f hf hz => ?_, fun f hf a b d e => ?_⟩
  · obtain ⟨k1, k2, k3⟩ := h1 f hf
    refine ⟨k1, k2, ?_⟩
    by_cases e : f = p
    · subst e
      rw [pk_us]
      rcases k2 with z | ⟨z1, z2⟩
      · exact absurd z hO
      · exact Or.inr ⟨z1, Or.inl ⟨z2, rfl⟩⟩
    · rw [pk_un e]
      exact k3
  · have hz' : f ∉ p :: l := hz.elim id (fun z => z.1.elim)
    have hfp : f ≠ p := fun e => hz' (by rw [e]; exact List.mem_cons_self)
    have := h5 f hf (Or.inl hz')
    unfold fr_rs fr_busy at this ⊢
    rw [pk_un hfp]
    exact this
  · by_cases e' : f = p
    · subst e'
      rw [pk_us] at d
      exact absurd rfl d
    · rw [pk_un e'] at d
      exact h6 f hf a b d e
end
section
variable {pO pX fP fU fR fO fA fG : Nat → Int32} {np n : Nat} {al : Nat → Prop} {l : List Nat} {p : Nat}
/-- a new frame within the head -/
theorem fr_X_new (h : fr_X pO pX np n fP fU fR fO fA fG al (p :: l) False) (hn : n < 600) (hr : fr_run pO pX fP fG p) {q : Nat} {ro : Int32} (hq : q < np) (hnp : np ≤ 40) (hqp : q < (fP p).toNatClampNeg)
    (hro : ro = 0 ∨ ro = 1 ∨ ro = 2) {fO' : Nat → Int32} (eO : ∀ f, f ≠ p → f ≠ n → fO' f = fO f) (eOn : fO' n = -1) (eO0 : ro = 0 → fO' p = nI n) (eO1 : ro ≠ 0 → fO' p = fO p)
    (hO : ro ≠ 0 → fr_o pO fP p ≠ 22 → fr_o pO fP p ≠ 32 → fO p ≠ -1 → al (fO p).toNatClampNeg ∧ (fO p).toNatClampNeg ∉ p :: l) :
    fr_X pO pX np (n + 1) (upd fP n (nI q)) (upd fU n (nI p)) (upd fR n ro) fO' (upd (upd fA n (-1)) p (nI n)) (upd fG n 0) (fun f => al f ∨ f = n) (n :: p :: l) True := by
  obtain ⟨h0, h1, h2, h3, h4, h5, h6⟩ := h
  have hpn := h4 p (h3 p List.mem_cons_self)
  have hne : p ≠ n := by omega
  have eo : ∀ f, f ≠ n → fr_o pO (upd fP n (nI q)) f = fr_o pO fP f := fun f hf => by unfold fr_o; rw [pk_un hf]
  have hmem : ∀ f, f ∈ p :: l → f < n := fun f hf => h4 f (h3 f hf)
  have kid : ∀ f x, f < n → fr_kid fP fU n f x → fr_kid (upd fP n (nI q)) (upd fU n (nI p)) (n + 1) f x := by
    intro f x hf hx
    obtain ⟨k, e1, e2, e3, e4, e5⟩ := hx
    refine ⟨k, e1, e2, by omega, ?_, ?_⟩
    · rw [pk_un (by omega)]; exact e4
    · rw [pk_un (by omega), pk_un (by omega)]; exact e5
  have kidc : ∀ f x, fr_kid fP fU n f x → x.toNatClampNeg < n := by
    intro f x hx
    obtain ⟨k, e1, e2, e3, e4, e5⟩ := hx
    rw [e1, nI_clamp (by omega)]; exact e3
  have kidn : fr_kid (upd fP n (nI q)) (upd fU n (nI p)) (n + 1) p (nI n) := by
    refine ⟨n, rfl, hpn, by omega, pk_us, ?_⟩
    rw [pk_us, pk_un hne, nI_clamp (by omega)]; exact hqp
  refine ⟨by omega, fun f hf => ?_, ⟨hpn, pk_us, pk_us, ?_, fr_pa_st l p h2 (pk_un hne) (fun f hf => ⟨pk_un (by omega), pk_un (by omega), ?_, pk_un (by omega)⟩)⟩, fun f hf => ?_, fun f hf => ?_, fun f hf hz => ?_, fun f hf a b d e => ?_⟩
  · by_cases e : f = n
    · subst e
      refine ⟨⟨q, pk_us, hq⟩, Or.inl eOn, Or.inl ?_⟩
      rw [pk_un (Ne.symm hne), pk_us]
    · have hfn : f < n := by omega
      obtain ⟨⟨k, k1, k2⟩, k3, k4⟩ := h1 f hfn
      refine ⟨⟨k, (pk_un e).trans k1, k2⟩, ?_, ?_⟩
      · by_cases ep : f = p
        · subst ep
          by_cases z : ro = 0
          · rw [eO0 z]
            refine Or.inr ⟨kidn, ?_⟩
            rw [nI_clamp (by omega), pk_us]; exact z
          · rw [eO1 z]
            rcases k3 with w | ⟨w1, w2⟩
            · exact Or.inl w
            · refine Or.inr ⟨kid _ _ hfn w1, ?_⟩
              have := kidc _ _ w1
              rw [pk_un (by omega)]; exact w2
        · rw [eO f ep e]
          rcases k3 with w | ⟨w1, w2⟩
          · exact Or.inl w
          · refine Or.inr ⟨kid _ _ hfn w1, ?_⟩
            have := kidc _ _ w1
            rw [pk_un (by omega)]; exact w2
      · by_cases ep : f = p
        · subst ep
          rw [pk_us]
          refine Or.inr ⟨kidn, ?_⟩
          rw [nI_clamp (by omega), pk_us]
          by_cases z : ro = 0
          · exact Or.inl ⟨z, eO0 z⟩
          · refine Or.inr ⟨hro.elim (fun w => absurd w z) id, ?_⟩
            rw [eO1 z]
            intro w
            rcases k3 with w' | ⟨w1, _⟩
            · exact fr_n1 hn (w.symm.trans w')
            · have := kidc _ _ w1
              rw [w, nI_clamp (by omega)] at this
              omega
        · rw [pk_un ep, pk_un e, eO f ep e]
          rcases k4 with w | ⟨w1, w2⟩
          · exact Or.inl w
          · refine Or.inr ⟨kid _ _ hfn w1, ?_⟩
            have := kidc _ _ w1
            rw [pk_un (by omega)]; exact w2
  · unfold fr_run at hr ⊢
    rw [eo p hne, pk_un hne, pk_un hne]
    exact hr
  · rw [pk_un (by omega), pk_un (by omega)]
  · rcases List.mem_cons.mp hf with z | z
    · exact Or.inr z
    · exact Or.inl (h3 f z)
  · rcases hf with z | z
    · have := h4 f z; omega
    · omega
  · by_cases e : f = n
    · subst e
      unfold fr_rs fr_busy
      rw [pk_un (Ne.symm hne), pk_us]
      exact ⟨fun w => w.2.1 rfl, fun _ _ w => absurd rfl w⟩
    · have hal : al f := hf.elim id (fun w => absurd w e)
      have hfl : f ∉ p :: l := by
        rcases hz with z | ⟨_, z⟩
        · exact fun hm => z (List.mem_cons_of_mem _ hm)
        · exact absurd (by simpa using z : n = f) (Ne.symm e)
      have hfp : f ≠ p := fun w => hfl (by rw [w]; exact List.mem_cons_self)
      have hfn := h4 f hal
      have hk := (h1 f hfn).2.2
      have := h5 f hal (Or.inl hfl)
      unfold fr_rs fr_busy at this ⊢
      rw [eo f e, pk_un hfp, pk_un e, pk_un e]
      refine ⟨this.1, fun a b d => ?_⟩
      obtain ⟨x, y⟩ := this.2 a b d
      refine ⟨Or.inl x, fun hm => ?_⟩
      rcases List.mem_cons.mp hm with z | z
      · rcases hk with w | ⟨w, _⟩
        · exact d w
        · have := kidc _ _ w; omega
      · exact y z
  · by_cases en : f = n
    · subst en
      exact absurd eOn e
    · have hal : al f := hf.elim id (fun w => absurd w en)
      have hfn := h4 f hal
      rw [eo f en] at a b
      by_cases ep : f = p
      · subst ep
        by_cases z : ro = 0
        · rw [eO0 z, pk_us] at d
          exact absurd rfl d
        · rw [eO1 z] at e ⊢
          obtain ⟨x, y⟩ := hO z a b e
          refine ⟨Or.inl x, fun hm => ?_⟩
          rcases List.mem_cons.mp hm with w | w
          · have := h4 _ x; omega
          · exact y w
      · rw [eO f ep en] at d e ⊢
        rw [pk_un ep, pk_un en] at d
        obtain ⟨x, y⟩ := h6 f hal a b d e
        refine ⟨Or.inl x, fun hm => ?_⟩
        rcases List.mem_cons.mp hm with w | w
        · have := h4 _ x; omega
        · exact y w
end
/-! ===== counting frames ===== -/
def ct_s (w : Nat → Nat) (n : Nat) : Nat := vv_sm w n
theorem ct_n {w : Nat → Nat} {n : Nat} : vv_sm w (n + 1) = vv_sm w n + w n := rfl
theorem ct_u {w w' : Nat → Nat} {g : Nat} : ∀ {n : Nat}, g < n → (∀ f, f < n → f ≠ g → w' f = w f) → vv_sm w' n + w g = vv_sm w n + w' g := by
  intro n
  induction n with
  | zero => intro h; omega
  | succ n ih =>
    intro h e
    rw [ct_n, ct_n]
    by_cases z : g = n
    · subst z
      rw [vv_sm_c g (fun i hi => e i (by omega) (by omega))]
      omega
    · have h1 := ih (by omega) (fun f hf => e f (by omega))
      have h2 := e n (by omega) (fun w => z w.symm)
      omega
/-! ===== names: Y's chain of bindings ===== -/
def en_v (nm no : Nat → Int32) (nv : Nat → Int64) : Nat → Int32 → Nat → Int64
  | 0, _, _ => 0
  | t + 1, a, x => if a < 0 then 0 else if nm a.toNatClampNeg = nI x then nv a.toNatClampNeg else en_v nm no nv t (no a.toNatClampNeg) x
def en_e (nm no : Nat → Int32) (nv : Nat → Int64) (a : Int32) (x : Nat) : Int64 := en_v nm no nv (a.toNatClampNeg + 1) a x
def en_at (nd : Nat) (a : Int32) : Prop := a = -1 ∨ ∃ j, a = nI j ∧ j < nd
def en_ok (nd : Nat) (no : Nat → Int32) : Prop := nd ≤ 700 ∧ ∀ j, j < nd → en_at j (no j)
section
variable {nm no nm' no' : Nat → Int32} {nv nv' : Nat → Int64} {nd : Nat}
theorem en_m1 : ((-1 : Int32) < 0) := by decide
theorem en_v_m (t x : Nat) : en_v nm no nv t (-1) x = 0 := by
  cases t with
  | zero => rfl
  | succ t => rw [en_v, if_pos en_m1]
theorem en_v_f (h : en_ok nd no) : ∀ j, j < nd → ∀ t t' x, j < t → j < t' → en_v nm no nv t (nI j) x = en_v nm no nv t' (nI j) x := by
  obtain ⟨h7, h⟩ := h
  intro j
  induction j using Nat.strongRecOn with
  | _ j ih =>
    intro hj t t' x ht ht'
    obtain ⟨t, rfl⟩ : ∃ s, t = s + 1 := ⟨t - 1, by omega⟩
    obtain ⟨t', rfl⟩ : ∃ s, t' = s + 1 := ⟨t' - 1, by omega⟩
    have hp := nI_pos (n := j) (by omega)
    rw [en_v, en_v, if_neg hp, if_neg hp, nI_clamp (by omega)]
    rcases h j hj with e | ⟨i, e, hi⟩
    · rw [e, en_v_m, en_v_m]
    · rw [e, ih i hi (by omega) t t' x (by omega) (by omega)]
theorem en_v_st (h : en_ok nd no) (e : ∀ j, j < nd → nm' j = nm j ∧ no' j = no j ∧ nv' j = nv j) : ∀ t a x, en_at nd a → en_v nm' no' nv' t a x = en_v nm no nv t a x := by
  obtain ⟨h7, h⟩ := h
  intro t
  induction t with
  | zero => intro a x _; rfl
  | succ t ih =>
    intro a x ha
    rcases ha with rfl | ⟨j, rfl, hj⟩
    · rw [en_v_m, en_v_m]
    · have hp := nI_pos (n := j) (by omega)
      obtain ⟨e1, e2, e3⟩ := e j hj
      rw [en_v, en_v, if_neg hp, if_neg hp, nI_clamp (by omega), e1, e2, e3]
      have hat : en_at nd (no j) := by
        rcases h j hj with z | ⟨i, z, hi⟩
        · exact Or.inl z
        · exact Or.inr ⟨i, z, by omega⟩
      rw [ih (no j) x hat]
theorem en_e_st (h : en_ok nd no) (e : ∀ j, j < nd → nm' j = nm j ∧ no' j = no j ∧ nv' j = nv j) (a : Int32) (x : Nat) (ha : en_at nd a) : en_e nm' no' nv' a x = en_e nm no nv a x := en_v_st h e _ a x ha
theorem en_e_m (x : Nat) : en_e nm no nv (-1) x = 0 := en_v_m _ x
/-- a new binding -/
theorem en_e_b (h : en_ok nd no) (hn : nd < 700) {a : Int32} (ha : en_at nd a) {y : Nat} {w : Int64} (x : Nat) (hx : x < 3) (hy : y < 3) :
    en_e (upd nm nd (nI y)) (upd no nd a) (vp_updL nv nd w) (nI nd) x = if x = y then w else en_e nm no nv a x := by
  have hp := nI_pos (n := nd) (by omega)
  unfold en_e
  rw [nI_clamp (by omega), en_v, if_neg hp, nI_clamp (by omega), pk_us, pk_us, pk_uLs]
  by_cases z : x = y
  · rw [if_pos z, if_pos (by rw [z])]
  · rw [if_neg z, if_neg (fun e => z ((nI_eq (by omega) (by omega)).mp e).symm)]
    rw [en_v_st h (fun j hj => ⟨pk_un (by omega), pk_un (by omega), pk_uLn (by omega)⟩) nd a x ha]
    rcases ha with rfl | ⟨j, rfl, hj⟩
    · rw [en_v_m, en_v_m]
    · rw [nI_clamp (by omega)]
      exact en_v_f h j hj _ _ x hj (by omega)
theorem en_ok_b (h : en_ok nd no) (hn : nd < 700) {a : Int32} (ha : en_at nd a) : en_ok (nd + 1) (upd no nd a) := by
  obtain ⟨h7, h⟩ := h
  refine ⟨by omega, fun j hj => ?_⟩
  by_cases e : j = nd
  · subst e; rw [pk_us]; exact ha
  · rw [pk_un e]; exact h j (by omega)
theorem en_at_u {nd' : Nat} {a : Int32} (h : en_at nd a) (hn : nd ≤ nd') : en_at nd' a := by
  rcases h with z | ⟨j, z, hj⟩
  · exact Or.inl z
  · exact Or.inr ⟨j, z, by omega⟩
end
/-! ===== a frame of X and an application of Y ===== -/
def fr_S (R : Int32 → Int64 → Prop) (E : Int32 → Nat → Prop) (Dp : Int32 → Nat → Nat → Prop) (o : Nat) (x : Int32) (st : Nat) (fi gi ac ou he ya y1 y2 yW : Int32) (yK yL : Int64) : Prop :=
  (o < 16 → ac = -1 ∧ ou = -1 ∧ (gi = 0 ∨ gi = 1 ∨ o = 7 ∨ o = 15) ∧ (o ≠ 7 → o ≠ 8 → o ≠ 15 → gi = ya)) ∧
  (o = 7 → ∃ g, gi = nI g ∧ yW = nI g ∧ E fi g) ∧
  (o = 15 → (gi = 0 ∧ ya = 0) ∨ (ya = 1 ∧ ∃ g way, gi = nI (g + 1) ∧ yW = nI way ∧ Dp fi g way)) ∧
  (16 ≤ o → o ≤ 20 → ac = ou ∧ y1 = ou) ∧
  (o = 16 → (ou = -1 ∧ gi = 0 ∧ ya = 0) ∨ (ou ≠ -1 ∧ (gi = 0 ∨ gi = 1) ∧ ∃ a, ya = nI (a + 1) ∧ a < 8200)) ∧
  (o = 18 → ∃ g m, gi = nI g ∧ yW = nI g ∧ x = nI m ∧ g ≤ m ∧ m < 10) ∧
  (21 ≤ o → o ≤ 34 → y1 = ou ∧ ((y2 = -1 ∧ ac = ou) ∨ (y2 = ac ∧ ac ≠ -1 ∧ ou ≠ -1 ∧ ac ≠ ou))) ∧
  (23 ≤ o → o ≤ 29 → R he yK) ∧
  (o = 32 → (gi = 0 ∧ yW = 0) ∨ (yW = 1 ∧ ∃ g, gi = nI (g + 1) ∧ g < st)) ∧
  (o = 35 → y1 = ou ∧ ((ac = -1 ∧ ou = -1 ∧ gi = 0 ∧ ya = 0 ∧ y2 = -1 ∧ R he yK) ∨ (ou = -1 ∧ ac ≠ -1 ∧ gi = 0 ∧ ya = 0 ∧ y2 = ac ∧ R he yK) ∨ (ou ≠ -1 ∧ ac = ou ∧ gi = 0 ∧ ya = 1 ∧ R he yK) ∨ (ou ≠ -1 ∧ ac ≠ -1 ∧ ac ≠ ou ∧ gi = 0 ∧ ya = 2 ∧ y2 = ac ∧ R he yL) ∨ (ac ≠ -1 ∧ gi = 1 ∧ ya = 3)))
theorem fr_S_up {R R' : Int32 → Int64 → Prop} {E E' : Int32 → Nat → Prop} {Dp Dp' : Int32 → Nat → Nat → Prop} {o : Nat} {x : Int32} {st st' : Nat} {fi gi ac ou he ya y1 y2 yW : Int32} {yK yL : Int64}
    (hR : ∀ s w, R s w → R' s w) (hE : ∀ g, E fi g → E' fi g) (hD : ∀ g w, Dp fi g w → Dp' fi g w) (hs : st ≤ st') (h : fr_S R E Dp o x st fi gi ac ou he ya y1 y2 yW yK yL) : fr_S R' E' Dp' o x st' fi gi ac ou he ya y1 y2 yW yK yL := by
  obtain ⟨h1, h2, h3, h4, h5, h6, h7, h8, h9, h10⟩ := h
  refine ⟨h1, fun z => ?_, fun z => ?_, h4, h5, h6, h7, fun a b => hR _ _ (h8 a b), fun z => ?_, fun z => ?_⟩
  · obtain ⟨g, a, b, c⟩ := h2 z
    exact ⟨g, a, b, hE g c⟩
  · rcases h3 z with a | ⟨a, g, w, b, c, d⟩
    · exact Or.inl a
    · exact Or.inr ⟨a, g, w, b, c, hD g w d⟩
  · rcases h9 z with a | ⟨a, g, b, c⟩
    · exact Or.inl a
    · exact Or.inr ⟨a, g, b, by omega⟩
  · obtain ⟨a, b⟩ := h10 z
    refine ⟨a, ?_⟩
    rcases b with ⟨a1, a2, a3, a4, a5, a6⟩ | ⟨a1, a2, a3, a4, a5, a6⟩ | ⟨a1, a2, a3, a4, a5⟩ | ⟨a1, a2, a3, a4, a5, a6, a7⟩ | a1
    · exact Or.inl ⟨a1, a2, a3, a4, a5, hR _ _ a6⟩
    · exact Or.inr (Or.inl ⟨a1, a2, a3, a4, a5, hR _ _ a6⟩)
    · exact Or.inr (Or.inr (Or.inl ⟨a1, a2, a3, a4, hR _ _ a5⟩))
    · exact Or.inr (Or.inr (Or.inr (Or.inl ⟨a1, a2, a3, a4, a5, a6, hR _ _ a7⟩)))
    · exact Or.inr (Or.inr (Or.inr (Or.inr a1)))
def fr_R (R : Int32 → Int64 → Prop) (E : Int32 → Nat → Prop) (Dp : Int32 → Nat → Nat → Prop) (env : Int32 → Nat → Int64) (nd st : Nat) (pO pX fP fI fO fA fH fG fN yo : Nat → Int32) (yi : Nat → Int64) (yw ya y1 y2 : Nat → Int32) (yK : Nat → Int64) (yW : Nat → Int32) (yL : Nat → Int64) (f : Nat) : Prop :=
  fP f = yo f ∧ R (fI f) (yi f) ∧ en_at nd (yw f) ∧
  (∀ x, x < 3 → R (fN (f * 3 + x)) (env (yw f) x) ∨ ((fr_o pO fP f = 33 ∨ fr_o pO fP f = 35) ∧ pX (fP f).toNatClampNeg = nI x ∧ y1 f ≠ -1)) ∧
  fr_S R E Dp (fr_o pO fP f) (pX (fP f).toNatClampNeg) st (fI f) (fG f) (fA f) (fO f) (fH f) (ya f) (y1 f) (y2 f) (yW f) (yK f) (yL f)
end
section
/-! ===== X: stores into slots ===== -/
theorem xi_10 (s i : Nat) : nI s * 10 + nI i = nI (s * 10 + i) := by
  show nI s * nI 10 + nI i = _
  rw [pk_mul, nI_add]
theorem xi_3 (s i : Nat) : nI s * 3 + nI i = nI (s * 3 + i) := by
  show nI s * nI 3 + nI i = _
  rw [pk_mul, nI_add]
theorem xi_13 (m : Nat) : 13 + nI m = nI (13 + m) := nI_add 13 m
theorem xi_53 (m : Nat) : 53 + nI m = nI (53 + m) := nI_add 53 m
theorem xm_setPlain {xst xow xin xpa xfi xfr xno xsi xan xkn xen xco xrm xac : Int32} {K N Z D Im W P vS pO pX pI fS fP fI fU fR fO fA fH fG fN aS qL qR qP : Nat → Int32} {post : SX → Prop} {s : Nat} {κ x : Int32} (hs : s < 653)
    (hp : post (xst, xow, xin, xpa, xfi, xfr, xno, xsi, xan, xkn, xen, xco, xrm, xac, (upd K s κ), (upd N s x), (upd Z s 0), (upd D s 0), (upd Im s 1), (upd W s 1), P, vS, pO, pX, pI, fS, fP, fI, fU, fR, fO, fA, fH, fG, fN, aS, qL, qR, qP)) : wpX_setPlain post (xst, xow, xin, xpa, xfi, xfr, xno, xsi, xan, xkn, xen, xco, xrm, xac, K, N, Z, D, Im, W, P, vS, pO, pX, pI, fS, fP, fI, fU, fR, fO, fA, fH, fG, fN, aS, qL, qR, qP) (nI s) κ x := by
  have h : vp_in (nI s) 653 := vp_in_nI hs (by omega)
  have e : (nI s).toNatClampNeg = s := nI_clamp (by omega)
  unfold wpX_setPlain
  dsimp only
  rw [e]
  exact ⟨h, nm_e ⟨h, nm_e ⟨h, nm_e ⟨h, nm_e ⟨h, nm_e ⟨h, nm_e hp⟩⟩⟩⟩⟩⟩
theorem xm_setNested {xst xow xin xpa xfi xfr xno xsi xan xkn xen xco xrm xac : Int32} {K N Z D Im W P vS pO pX pI fS fP fI fU fR fO fA fH fG fN aS qL qR qP : Nat → Int32} {post : SX → Prop} {s : Nat} {κ x : Int32} (hs : s < 653)
    (hp : post (xst, xow, xin, xpa, xfi, xfr, xno, xsi, xan, xkn, xen, xco, xrm, xac, (upd K s κ), (upd N s x), (upd Z s 0), D, Im, W, P, vS, pO, pX, pI, fS, fP, fI, fU, fR, fO, fA, fH, fG, fN, aS, qL, qR, qP)) : wpX_setNested post (xst, xow, xin, xpa, xfi, xfr, xno, xsi, xan, xkn, xen, xco, xrm, xac, K, N, Z, D, Im, W, P, vS, pO, pX, pI, fS, fP, fI, fU, fR, fO, fA, fH, fG, fN, aS, qL, qR, qP) (nI s) κ x := by
  have h : vp_in (nI s) 653 := vp_in_nI hs (by omega)
  have e : (nI s).toNatClampNeg = s := nI_clamp (by omega)
  unfold wpX_setNested
  dsimp only
  rw [e]
  exact ⟨h, nm_e ⟨h, nm_e ⟨h, nm_e hp⟩⟩⟩
theorem xm_addTo {xst xow xin xpa xfi xfr xno xsi xan xkn xen xco xrm xac : Int32} {K N Z D Im W P vS pO pX pI fS fP fI fU fR fO fA fH fG fN aS qL qR qP : Nat → Int32} {post : SX → Prop} {s z : Nat} {x : Int32} (hs : s < 653) (eZ : Z s = nI z) (hz : z < 10)
    (hp : post (xst, xow, xin, xpa, xfi, xfr, xno, xsi, xan, xkn, xen, xco, xrm, xac, K, N, (upd Z s (nI (z + 1))), D, Im, W, (upd P (s * 10 + z) x), vS, pO, pX, pI, fS, fP, fI, fU, fR, fO, fA, fH, fG, fN, aS, qL, qR, qP)) : wpX_addTo post (xst, xow, xin, xpa, xfi, xfr, xno, xsi, xan, xkn, xen, xco, xrm, xac, K, N, Z, D, Im, W, P, vS, pO, pX, pI, fS, fP, fI, fU, fR, fO, fA, fH, fG, fN, aS, qL, qR, qP) (nI s) x := by
  have h : vp_in (nI s) 653 := vp_in_nI hs (by omega)
  have e : (nI s).toNatClampNeg = s := nI_clamp (by omega)
  have h2 : vp_in (nI (s * 10 + z)) 6530 := vp_in_nI (by omega) (by omega)
  unfold wpX_addTo
  dsimp only
  rw [e, eZ, xi_10, nI_clamp (show s * 10 + z < 2 ^ 31 by omega), nI_1]
  exact ⟨h, h2, nm_e ⟨h, h, nm_e hp⟩⟩
theorem xm_measure_l {xst xow xin xpa xfi xfr xno xsi xan xkn xen xco xrm xac : Int32} {K N Z D Im W P vS pO pX pI fS fP fI fU fR fO fA fH fG fN aS qL qR qP : Nat → Int32} {post : SX → Prop} {s z kk : Nat} {c e q w : Nat → Nat} (hs : s < 653) (hz : z ≤ 10) (hkk : kk ≤ 1) (eZ : Z s = nI z)
    (hc : ∀ i, i < z → P (s * 10 + i) = nI (c i) ∧ c i < 653 ∧ D (c i) = nI (e i) ∧ e i ≤ 4 ∧ Im (c i) = nI (q i) ∧ q i ≤ 23332 ∧ W (c i) = nI (w i) ∧ w i ≤ 23332)
    (hp : post (xst, xow, xin, xpa, xfi, xfr, xno, xsi, xan, xkn, xen, xco, xrm, xac, K, N, Z, (upd D s (nI (vv_mx e z + 1))), (upd Im s (nI (2 + vv_sm (fun i => kk + q i) z))), (upd W s (nI (1 + vv_sm w z))), P, vS, pO, pX, pI, fS, fP, fI, fU, fR, fO, fA, fH, fG, fN, aS, qL, qR, qP)) :
    ∀ m i, i + m = z → wX_measure_27 post (nI s) (nI kk) xst xow xin xpa xfi xfr xno xsi xan xkn xen xco xrm xac K N Z D Im W P vS pO pX pI fS fP fI fU fR fO fA fH fG fN aS qL qR qP (m + 1) (nI (vv_mx e i)) (nI (2 + vv_sm (fun i => kk + q i) i)) (nI (1 + vv_sm w i)) (nI i) := by
  have h : vp_in (nI s) 653 := vp_in_nI hs (by omega)
  have es : (nI s).toNatClampNeg = s := nI_clamp (by omega)
  intro m
  induction m with
  | zero =>
    intro i hi
    have hi' : i = z := by omega
    subst hi'
    unfold wX_measure_27
    rw [es, eZ, nI_1]
    exact ⟨h, br_t (nI_le (Nat.le_refl _) (by omega)) ⟨h, nm_e ⟨h, nm_e ⟨h, nm_e hp⟩⟩⟩⟩
  | succ m ih =>
    intro i hi
    obtain ⟨c1, c2, c3, c4, c5, c6, c7, c8⟩ := hc i (by omega)
    have hmx : vv_mx e i ≤ 4 := vv_mx_le (fun j hj => (hc j (by omega)).2.2.2.1)
    have ei : (nI s * 10 + nI i).toNatClampNeg = s * 10 + i := by rw [xi_10, nI_clamp (by omega)]
    have h2 : vp_in (nI s * 10 + nI i) 6530 := by rw [xi_10]; exact vp_in_nI (by omega) (by omega)
    have h3 : vp_in (nI (c i)) 653 := vp_in_nI c2 (by omega)
    have ec : (nI (c i)).toNatClampNeg = c i := nI_clamp (by omega)
    have key : ∀ y : Nat, y = vv_mx e (i + 1) → wX_measure_71 post (wX_measure_27 post (nI s) (nI kk) xst xow xin xpa xfi xfr xno xsi xan xkn xen xco xrm xac K N Z D Im W P vS pO pX pI fS fP fI fU fR fO fA fH fG fN aS qL qR qP (m + 1)) (nI s) (nI kk) (nI y) (nI (2 + vv_sm (fun i => kk + q i) i)) (nI (1 + vv_sm w i)) (nI i) (nI (c i)) xst xow xin xpa xfi xfr xno xsi xan xkn xen xco xrm xac K N Z D Im W P vS pO pX pI fS fP fI fU fR fO fA fH fG fN aS qL qR qP := by
      intro y hy
      subst hy
      unfold wX_measure_71
      rw [ec, c5, c7, nI_add, nI_add, nI_add, nI_1]
      have := ih (i + 1) (by omega)
      rw [show 2 + vv_sm (fun i => kk + q i) (i + 1) = 2 + vv_sm (fun i => kk + q i) i + (kk + q i) from (Nat.add_assoc _ _ _).symm, show 1 + vv_sm w (i + 1) = 1 + vv_sm w i + w i from (Nat.add_assoc _ _ _).symm] at this
      exact ⟨h3, nm_e ⟨h3, nm_e (nm_e this)⟩⟩
    unfold wX_measure_27
    rw [es, eZ, ei, c1]
    refine ⟨h, br_f (nI_ge (by omega) (by omega)) ⟨h2, nm_e ⟨h3, ?_⟩⟩⟩
    rw [ec, c3]
    refine pk_le (e i) (vv_mx e i) (fun hle => key _ ?_) (fun hlt => ⟨h3, nm_e (key _ ?_)⟩)
    · rw [vv_mx, if_neg (by omega)]
    · rw [vv_mx, if_pos hlt]
theorem xm_measure {xst xow xin xpa xfi xfr xno xsi xan xkn xen xco xrm xac : Int32} {K N Z D Im W P vS pO pX pI fS fP fI fU fR fO fA fH fG fN aS qL qR qP : Nat → Int32} {post : SX → Prop} {s z kk : Nat} {c e q w : Nat → Nat} (hs : s < 653) (hz : z ≤ 10) (hK : (K s = 5 ∧ kk = 1) ∨ (¬ K s = 5 ∧ kk = 0)) (eZ : Z s = nI z)
    (hc : ∀ i, i < z → P (s * 10 + i) = nI (c i) ∧ c i < 653 ∧ D (c i) = nI (e i) ∧ e i ≤ 4 ∧ Im (c i) = nI (q i) ∧ q i ≤ 23332 ∧ W (c i) = nI (w i) ∧ w i ≤ 23332)
    (hp : post (xst, xow, xin, xpa, xfi, xfr, xno, xsi, xan, xkn, xen, xco, xrm, xac, K, N, Z, (upd D s (nI (vv_mx e z + 1))), (upd Im s (nI (2 + vv_sm (fun i => kk + q i) z))), (upd W s (nI (1 + vv_sm w z))), P, vS, pO, pX, pI, fS, fP, fI, fU, fR, fO, fA, fH, fG, fN, aS, qL, qR, qP)) : wpX_measure post (xst, xow, xin, xpa, xfi, xfr, xno, xsi, xan, xkn, xen, xco, xrm, xac, K, N, Z, D, Im, W, P, vS, pO, pX, pI, fS, fP, fI, fU, fR, fO, fA, fH, fG, fN, aS, qL, qR, qP) (nI s) := by
  have h : vp_in (nI s) 653 := vp_in_nI hs (by omega)
  have es : (nI s).toNatClampNeg = s := nI_clamp (by omega)
  have hl := xm_measure_l (post := post) hs hz (show kk ≤ 1 by omega) eZ hc hp z 0 (by omega)
  unfold wpX_measure
  dsimp only
  rw [es]
  refine ⟨h, ?_⟩
  rcases hK with ⟨a, b⟩ | ⟨a, b⟩
  · subst b
    exact br_t a ⟨_, hl⟩
  · subst b
    exact br_f a ⟨_, hl⟩
theorem xm_pushOwn {xst xow xin xpa xfi xfr xno xsi xan xkn xen xco xrm xac : Int32} {K N Z D Im W P vS pO pX pI fS fP fI fU fR fO fA fH fG fN aS qL qR qP : Nat → Int32} {post : Int32 → SX → Prop} {h m : Nat} {s : Int32} (eh : xst = nI h) (em : xow = nI m) (hh : h < 12)
    (hp : post (nI (h + 1)) ((nI (h + 1)), (nI (m + 1)), xin, xpa, xfi, xfr, xno, xsi, xan, xkn, xen, xco, xrm, xac, K, N, Z, D, Im, W, P, (upd vS h s), pO, pX, pI, fS, fP, fI, fU, fR, fO, fA, fH, fG, fN, aS, qL, qR, qP)) : wpX_pushOwn post (xst, xow, xin, xpa, xfi, xfr, xno, xsi, xan, xkn, xen, xco, xrm, xac, K, N, Z, D, Im, W, P, vS, pO, pX, pI, fS, fP, fI, fU, fR, fO, fA, fH, fG, fN, aS, qL, qR, qP) s := by
  subst eh em
  have e : (nI h).toNatClampNeg = h := nI_clamp (by omega)
  unfold wpX_pushOwn
  dsimp only
  rw [e, nI_1, nI_1]
  exact nm_e ⟨vp_in_nI hh (by omega), nm_e (nm_e hp)⟩
/-! ===== the keys of an object ===== -/
theorem kb_bit {m b : Nat} (hm : m < 2 ^ 31) (hb : b < 32) : (nI m >>> (nI b &&& 31)) &&& 1 = nI (m / 2 ^ b % 2) := by
  rw [pk_shrN hm _ b (s_l b hb), pk_andN (m := 1) (Nat.lt_of_le_of_lt (Nat.div_le_self _ _) (by omega)) 1 (by decide)]
theorem xm_keysBelow {xst xow xin xpa xfi xfr xno xsi xan xkn xen xco xrm xac : Int32} {K N Z D Im W P vS pO pX pI fS fP fI fU fR fO fA fH fG fN aS qL qR qP : Nat → Int32} {post : Int32 → Prop} {m b : Nat} (hm : m < 256) (hb : b ≤ 8) (hp : post (nI (vv_pc m b))) : wpX_keysBelow post (xst, xow, xin, xpa, xfi, xfr, xno, xsi, xan, xkn, xen, xco, xrm, xac, K, N, Z, D, Im, W, P, vS, pO, pX, pI, fS, fP, fI, fU, fR, fO, fA, fH, fG, fN, aS, qL, qR, qP) (nI m) (nI b) := by
  have hl : ∀ r i, i + r = b → wX_keysBelow_5 post (nI m) (nI b) xst xow xin xpa xfi xfr xno xsi xan xkn xen xco xrm xac K N Z D Im W P vS pO pX pI fS fP fI fU fR fO fA fH fG fN aS qL qR qP (r + 1) (nI (vv_pc m i)) (nI i) := by
    intro r
    induction r with
    | zero =>
      intro i hi
      have hi' : i = b := by omega
      subst hi'
      unfold wX_keysBelow_5
      exact br_t (nI_le (Nat.le_refl _) (by omega)) hp
    | succ r ih =>
      intro i hi
      unfold wX_keysBelow_5
      rw [kb_bit (by omega) (by omega), nI_add, nI_1]
      exact br_f (nI_ge (by omega) (by omega)) (nm_e (nm_e (ih (i + 1) (by omega))))
  unfold wpX_keysBelow
  dsimp only
  exact ⟨_, hl b 0 (by omega)⟩
end
section
/-! ===== Y: longs, composites ===== -/
theorem yy_s32 {κ : Nat} (h : κ < 16) (x : Int32) : (yy_t κ x >>> ((32 : Int32).toInt64 &&& 63)).toInt32 = nI κ := yy_st h x (by decide)
theorem yy_m32 {κ : Nat} (h : κ < 16) (x : Int32) : ((nI κ).toInt64 <<< ((32 : Int32).toInt64 &&& 63)) ||| (x.toInt64 &&& 4294967295) = yy_t κ x := yy_mt h x
theorem ym_thing {yma ypo yhe yvm : Int32} {yin : Int64} {yfi yde yap yas yto : Int32} {yan : Int64} {yco yti yna yac yen yic : Int32} {o l kS d : Nat → Int32} {pl ys : Nat → Int64} {yk yn yp yf yo : Nat → Int32} {yi : Nat → Int64} {yw ya y1 y2 : Nat → Int32} {yK : Nat → Int64} {yW : Nat → Int32} {yL : Nat → Int64} {yq nm : Nat → Int32} {nv : Nat → Int64} {no : Nat → Int32} {yA lf rt : Nat → Int64} {iK iN : Nat → Int32} {post : Int64 → Prop} {κ : Nat} {x : Int32} (h : κ < 16) (hp : post (yy_t κ x)) : wpY_thing post (yma, ypo, yhe, yvm, yin, yfi, yde, yap, yas, yto, yan, yco, yti, yna, yac, yen, yic, o, l, kS, d, pl, ys, yk, yn, yp, yf, yo, yi, yw, ya, y1, y2, yK, yW, yL, yq, nm, nv, no, yA, lf, rt, iK, iN) (nI κ) x := by
  unfold wpY_thing
  dsimp only
  rw [yy_m32 h]
  exact hp
theorem ym_sort {yma ypo yhe yvm : Int32} {yin : Int64} {yfi yde yap yas yto : Int32} {yan : Int64} {yco yti yna yac yen yic : Int32} {o l kS d : Nat → Int32} {pl ys : Nat → Int64} {yk yn yp yf yo : Nat → Int32} {yi : Nat → Int64} {yw ya y1 y2 : Nat → Int32} {yK : Nat → Int64} {yW : Nat → Int32} {yL : Nat → Int64} {yq nm : Nat → Int32} {nv : Nat → Int64} {no : Nat → Int32} {yA lf rt : Nat → Int64} {iK iN : Nat → Int32} {post : Int32 → Prop} {κ : Nat} {x : Int32} (h : κ < 16) (hp : post (nI κ)) : wpY_sort post (yma, ypo, yhe, yvm, yin, yfi, yde, yap, yas, yto, yan, yco, yti, yna, yac, yen, yic, o, l, kS, d, pl, ys, yk, yn, yp, yf, yo, yi, yw, ya, y1, y2, yK, yW, yL, yq, nm, nv, no, yA, lf, rt, iK, iN) (yy_t κ x) := by
  unfold wpY_sort
  dsimp only
  rw [yy_s32 h]
  exact hp
/-- the depth of a long -/
def yd_is (d : Nat → Int32) (w : Int64) (e : Nat) : Prop := e ≤ 4 ∧ ∃ κ x, κ ≤ 5 ∧ w = yy_t κ x ∧ ((κ < 4 ∧ e = 0) ∨ (4 ≤ κ ∧ ∃ j, j < 760 ∧ x = nI j ∧ d j = nI e))
theorem ym_depthOf {yma ypo yhe yvm : Int32} {yin : Int64} {yfi yde yap yas yto : Int32} {yan : Int64} {yco yti yna yac yen yic : Int32} {o l kS d : Nat → Int32} {pl ys : Nat → Int64} {yk yn yp yf yo : Nat → Int32} {yi : Nat → Int64} {yw ya y1 y2 : Nat → Int32} {yK : Nat → Int64} {yW : Nat → Int32} {yL : Nat → Int64} {yq nm : Nat → Int32} {nv : Nat → Int64} {no : Nat → Int32} {yA lf rt : Nat → Int64} {iK iN : Nat → Int32} {post : Int32 → Prop} {w : Int64} {e : Nat} (h : yd_is d w e) (hp : post (nI e)) : wpY_depthOf post (yma, ypo, yhe, yvm, yin, yfi, yde, yap, yas, yto, yan, yco, yti, yna, yac, yen, yic, o, l, kS, d, pl, ys, yk, yn, yp, yf, yo, yi, yw, ya, y1, y2, yK, yW, yL, yq, nm, nv, no, yA, lf, rt, iK, iN) w := by
  obtain ⟨_, κ, x, h5, rfl, h⟩ := h
  unfold wpY_depthOf
  dsimp only
  refine ym_sort (by omega) ?_
  rcases h with ⟨a, rfl⟩ | ⟨a, j, b, rfl, c⟩
  · exact br_f (nI_ge (b := 4) a (by decide)) hp
  · rw [yy_xt, nI_clamp (by omega), c]
    exact br_t (nI_le (a := 4) a (by omega)) ⟨vp_in_nI b (by omega), hp⟩
theorem ym_compose {yma ypo yhe yvm : Int32} {yin : Int64} {yfi yde yap yas yto : Int32} {yan : Int64} {yco yti yna yac yen yic : Int32} {o l kS d : Nat → Int32} {pl ys : Nat → Int64} {yk yn yp yf yo : Nat → Int32} {yi : Nat → Int64} {yw ya y1 y2 : Nat → Int32} {yK : Nat → Int64} {yW : Nat → Int32} {yL : Nat → Int64} {yq nm : Nat → Int32} {nv : Nat → Int64} {no : Nat → Int32} {yA lf rt : Nat → Int64} {iK iN : Nat → Int32} {post : Int64 → SY → Prop} {mk a b κ : Nat} {e : Nat → Nat} {key : Int32} (em : yma = nI mk) (hm : mk < 760) (hκ : κ < 16) (hb : b ≤ 10) (hab : a + b ≤ 8200)
    (hc : ∀ i, i < b → yd_is d (pl (a + i)) (e i))
    (hp : post (yy_t κ (nI mk)) ((nI (mk + 1)), ypo, yhe, yvm, yin, yfi, yde, yap, yas, yto, yan, yco, yti, yna, yac, yen, yic, (upd o mk (nI a)), (upd l mk (nI b)), (upd kS mk key), (upd d mk (nI (vv_mx e b + 1))), pl, ys, yk, yn, yp, yf, yo, yi, yw, ya, y1, y2, yK, yW, yL, yq, nm, nv, no, yA, lf, rt, iK, iN)) :
    wpY_compose post (yma, ypo, yhe, yvm, yin, yfi, yde, yap, yas, yto, yan, yco, yti, yna, yac, yen, yic, o, l, kS, d, pl, ys, yk, yn, yp, yf, yo, yi, yw, ya, y1, y2, yK, yW, yL, yq, nm, nv, no, yA, lf, rt, iK, iN) (nI κ) (nI a) (nI b) key := by
  subst em
  have hv : vp_in (nI mk) 760 := vp_in_nI hm (by omega)
  have ek : (nI mk).toNatClampNeg = mk := nI_clamp (by omega)
  have hl : ∀ r i, i + r = b → wY_compose_37 post (nI κ) (nI a) (nI b) (nI mk) ypo yhe yvm yin yfi yde yap yas yto yan yco yti yna yac yen yic (upd o mk (nI a)) (upd l mk (nI b)) (upd kS mk key) d pl ys yk yn yp yf yo yi yw ya y1 y2 yK yW yL yq nm nv no yA lf rt iK iN (r + 1) (nI (vv_mx e i)) (nI i) := by
    intro r
    induction r with
    | zero =>
      intro i hi
      have hi' : i = b := by omega
      subst hi'
      unfold wY_compose_37
      rw [ek, nI_1, nI_1]
      refine br_t (nI_le (Nat.le_refl _) (by omega)) ⟨hv, nm_e (nm_e ?_)⟩
      rw [nI_pred]
      exact ym_thing hκ hp
    | succ r ih =>
      intro i hi
      have hmx : vv_mx e i ≤ 4 := vv_mx_le (fun j hj => (hc j (by omega)).1)
      have h4 := (hc i (by omega)).1
      unfold wY_compose_37
      rw [nI_add, nI_clamp (show a + i < 2 ^ 31 by omega)]
      refine br_f (nI_ge (by omega) (by omega)) ⟨vp_in_nI (by omega) (by omega), ym_depthOf (hc i (by omega)) ?_⟩
      refine pk_le (e i) (vv_mx e i) (fun hle => nm_r (nI_1 i) ?_) (fun hlt => nm_r (nI_1 i) ?_)
      · have := ih (i + 1) (by omega)
        rw [vv_mx, if_neg (by omega)] at this
        exact this
      · have := ih (i + 1) (by omega)
        rw [vv_mx, if_pos hlt] at this
        exact this
  unfold wpY_compose
  dsimp only
  rw [ek]
  exact ⟨hv, nm_e ⟨hv, nm_e ⟨hv, nm_e ⟨_, hl b 0 (by omega)⟩⟩⟩⟩
theorem vv_pc_10 : ∀ m, m < 256 → vv_pc m 10 = vv_pc m 8 := by
  intro m hm
  have h8 : m / 2 ^ 8 = 0 := Nat.div_eq_of_lt (by omega)
  have h9 : m / 2 ^ 9 = 0 := Nat.div_eq_of_lt (by omega)
  show vv_sm _ 8 + m / 2 ^ 8 % 2 + m / 2 ^ 9 % 2 = _
  rw [h8, h9]
  rfl
theorem ym_bits {yma ypo yhe yvm : Int32} {yin : Int64} {yfi yde yap yas yto : Int32} {yan : Int64} {yco yti yna yac yen yic : Int32} {o l kS d : Nat → Int32} {pl ys : Nat → Int64} {yk yn yp yf yo : Nat → Int32} {yi : Nat → Int64} {yw ya y1 y2 : Nat → Int32} {yK : Nat → Int64} {yW : Nat → Int32} {yL : Nat → Int64} {yq nm : Nat → Int32} {nv : Nat → Int64} {no : Nat → Int32} {yA lf rt : Nat → Int64} {iK iN : Nat → Int32} {post : Int32 → Prop} {m : Nat} (hm : m < 2 ^ 31) (hp : post (nI (vv_pc m 10))) : wpY_bits post (yma, ypo, yhe, yvm, yin, yfi, yde, yap, yas, yto, yan, yco, yti, yna, yac, yen, yic, o, l, kS, d, pl, ys, yk, yn, yp, yf, yo, yi, yw, ya, y1, y2, yK, yW, yL, yq, nm, nv, no, yA, lf, rt, iK, iN) (nI m) := by
  have hl : ∀ r i, i + r = 10 → wY_bits_4 post (nI m) yma ypo yhe yvm yin yfi yde yap yas yto yan yco yti yna yac yen yic o l kS d pl ys yk yn yp yf yo yi yw ya y1 y2 yK yW yL yq nm nv no yA lf rt iK iN (r + 1) (nI (vv_pc m i)) (nI i) := by
    intro r
    induction r with
    | zero =>
      intro i hi
      have hi' : i = 10 := by omega
      subst hi'
      unfold wY_bits_4
      exact br_t (nI_le (a := 10) (Nat.le_refl _) (by omega)) hp
    | succ r ih =>
      intro i hi
      unfold wY_bits_4
      rw [kb_bit hm (by omega), nI_add, nI_1]
      exact br_f (nI_ge (b := 10) (by omega) (by omega)) (nm_e (nm_e (ih (i + 1) (by omega))))
  unfold wpY_bits
  dsimp only
  exact ⟨_, hl 10 0 (by omega)⟩
theorem ym_lengthOf {yma ypo yhe yvm : Int32} {yin : Int64} {yfi yde yap yas yto : Int32} {yan : Int64} {yco yti yna yac yen yic : Int32} {o l kS d : Nat → Int32} {pl ys : Nat → Int64} {yk yn yp yf yo : Nat → Int32} {yi : Nat → Int64} {yw ya y1 y2 : Nat → Int32} {yK : Nat → Int64} {yW : Nat → Int32} {yL : Nat → Int64} {yq nm : Nat → Int32} {nv : Nat → Int64} {no : Nat → Int32} {yA lf rt : Nat → Int64} {iK iN : Nat → Int32} {post : Int32 → Prop} {κ j : Nat} (hj : j < 760) (hp : post (l j)) : wpY_lengthOf post (yma, ypo, yhe, yvm, yin, yfi, yde, yap, yas, yto, yan, yco, yti, yna, yac, yen, yic, o, l, kS, d, pl, ys, yk, yn, yp, yf, yo, yi, yw, ya, y1, y2, yK, yW, yL, yq, nm, nv, no, yA, lf, rt, iK, iN) (yy_t κ (nI j)) := by
  unfold wpY_lengthOf
  dsimp only
  rw [yy_xt, nI_clamp (by omega)]
  exact ⟨vp_in_nI hj (by omega), hp⟩
theorem ym_place {yma ypo yhe yvm : Int32} {yin : Int64} {yfi yde yap yas yto : Int32} {yan : Int64} {yco yti yna yac yen yic : Int32} {o l kS d : Nat → Int32} {pl ys : Nat → Int64} {yk yn yp yf yo : Nat → Int32} {yi : Nat → Int64} {yw ya y1 y2 : Nat → Int32} {yK : Nat → Int64} {yW : Nat → Int32} {yL : Nat → Int64} {yq nm : Nat → Int32} {nv : Nat → Int64} {no : Nat → Int32} {yA lf rt : Nat → Int64} {iK iN : Nat → Int32} {post : Int64 → Prop} {κ j a i : Nat} (hj : j < 760) (eo : o j = nI a) (hi : a + i < 8200) (hp : post (pl (a + i))) : wpY_place post (yma, ypo, yhe, yvm, yin, yfi, yde, yap, yas, yto, yan, yco, yti, yna, yac, yen, yic, o, l, kS, d, pl, ys, yk, yn, yp, yf, yo, yi, yw, ya, y1, y2, yK, yW, yL, yq, nm, nv, no, yA, lf, rt, iK, iN) (yy_t κ (nI j)) (nI i) := by
  unfold wpY_place
  dsimp only
  rw [yy_xt, nI_clamp (show j < 2 ^ 31 by omega), eo, nI_add, nI_clamp (show a + i < 2 ^ 31 by omega)]
  exact ⟨vp_in_nI hj (by omega), vp_in_nI hi (by omega), hp⟩
theorem ym_isEmpty {yma ypo yhe yvm : Int32} {yin : Int64} {yfi yde yap yas yto : Int32} {yan : Int64} {yco yti yna yac yen yic : Int32} {o l kS d : Nat → Int32} {pl ys : Nat → Int64} {yk yn yp yf yo : Nat → Int32} {yi : Nat → Int64} {yw ya y1 y2 : Nat → Int32} {yK : Nat → Int64} {yW : Nat → Int32} {yL : Nat → Int64} {yq nm : Nat → Int32} {nv : Nat → Int64} {no : Nat → Int32} {yA lf rt : Nat → Int64} {iK iN : Nat → Int32} {post : Int32 → Prop} {κ : Nat} {x : Int32} (h : κ < 16) (h0 : 2 ≤ κ → post 0) (h1 : κ < 2 → post 1) : wpY_isEmpty post (yma, ypo, yhe, yvm, yin, yfi, yde, yap, yas, yto, yan, yco, yti, yna, yac, yen, yic, o, l, kS, d, pl, ys, yk, yn, yp, yf, yo, yi, yw, ya, y1, y2, yK, yW, yL, yq, nm, nv, no, yA, lf, rt, iK, iN) (yy_t κ x) := by
  unfold wpY_isEmpty
  dsimp only
  refine ym_sort h ?_
  exact pk_le 2 κ h0 h1
theorem ym_truth {yma ypo yhe yvm : Int32} {yin : Int64} {yfi yde yap yas yto : Int32} {yan : Int64} {yco yti yna yac yen yic : Int32} {o l kS d : Nat → Int32} {pl ys : Nat → Int64} {yk yn yp yf yo : Nat → Int32} {yi : Nat → Int64} {yw ya y1 y2 : Nat → Int32} {yK : Nat → Int64} {yW : Nat → Int32} {yL : Nat → Int64} {yq nm : Nat → Int32} {nv : Nat → Int64} {no : Nat → Int32} {yA lf rt : Nat → Int64} {iK iN : Nat → Int32} {post : Int64 → Prop} {z : Int32} (h0 : z = 0 → post (yy_t 1 0)) (h1 : ¬ z = 0 → post (yy_t 2 0)) : wpY_truth post (yma, ypo, yhe, yvm, yin, yfi, yde, yap, yas, yto, yan, yco, yti, yna, yac, yen, yic, o, l, kS, d, pl, ys, yk, yn, yp, yf, yo, yi, yw, ya, y1, y2, yK, yW, yL, yq, nm, nv, no, yA, lf, rt, iK, iN) z := by
  unfold wpY_truth
  dsimp only
  refine br_c (fun hz => ?_) (fun hz => ?_)
  · unfold wY_truth_10
    exact ym_thing (κ := 1) (by omega) (h0 hz)
  · unfold wY_truth_10
    exact ym_thing (κ := 2) (by omega) (h1 hz)
end
section
/-! ===== the relation ===== -/
/-- X's op as Y numbers it; how many filters it takes -/
def fl_kk (o : Nat) : Nat := if o < 16 then o else if o < 21 then o + 4 else if o < 34 then o + 9 else o + 16
def fl_ar (o : Nat) : Nat := if o < 16 then 0 else if o < 21 then 1 else if o < 34 then 2 else 3
def fl_p (pO pX pI yk : Nat → Int32) (q : Nat) : Prop :=
  ∃ o, o ≤ 35 ∧ pO q = nI o ∧ yk q = nI (fl_kk o) ∧ (∀ r, r < fl_ar o → ∃ c, pI (q * 3 + r) = nI c ∧ c < q) ∧
    (o = 5 → ∃ m, m < 8 ∧ pX q = nI m) ∧ (o = 6 → -10 ≤ (pX q).toInt ∧ (pX q).toInt ≤ 9) ∧ (o = 13 → ∃ m, m < 3 ∧ pX q = nI m) ∧ (o = 18 → ∃ m, m < 10 ∧ pX q = nI m) ∧ (o = 20 → ∃ m, m < 8 ∧ pX q = nI m) ∧ (o = 33 → ∃ m, m < 3 ∧ pX q = nI m) ∧ (o = 35 → ∃ m, m < 3 ∧ pX q = nI m)
def rl_f (np nf : Nat) (xpa xfi : Int32) (pO pX pI fS : Nat → Int32) (yfi yde : Int32) (yk yn yp yf : Nat → Int32) : Prop :=
  xpa = nI np ∧ yfi = nI np ∧ np ≤ 40 ∧ xfi = nI nf ∧ yde = nI nf ∧ nf ≤ 8 ∧ yn = pX ∧ yp = pI ∧ yf = fS ∧ (∀ q, q < np → fl_p pO pX pI yk q) ∧ ∀ i, i < nf → ∃ c, fS i = nI c ∧ c < np
/-- the slots that stand from the beginning -/
def rl_b (V : Nat → Prop) (K N : Nat → Int32) : Prop := (∀ s, s < 3 → V s ∧ K s = nI s) ∧ ∀ g, g < 10 → V (3 + g) ∧ K (3 + g) = nI 3 ∧ N (3 + g) = nI g
def rl_h (V : Nat → Prop) (h m mk pd : Nat) (xst xow xin : Int32) (K N Z D Im W P vS : Nat → Int32) (yma ypo yhe yvm : Int32) (yin : Int64) (o l kS d : Nat → Int32) (pl ys : Nat → Int64) : Prop :=
  xst = nI h ∧ yhe = nI h ∧ h ≤ 12 ∧ xow = nI m ∧ yvm = nI m ∧ m ≤ 40 ∧ yma = nI mk ∧ ypo = nI pd ∧ mk ≤ m ∧ pd ≤ 10 * m ∧
  vv_ox V K N Z D Im W P ∧ (∀ s, V s → s < 13 + m) ∧ rl_b V K N ∧ vv_cy mk pd o l pl ∧
  (∀ i, i < h → vv_R V K N Z D P mk o l kS d pl (vS i) (ys i)) ∧ vv_R V K N Z D P mk o l kS d pl xin yin
/-- a state of Y from which a run is to be worked out: T is the input, the filter is X's -/
def kn_fam (T : List Nat → Option vv_L) (np nf : Nat) (pO pX pI fS : Nat → Int32) (mk pd : Nat) (yma ypo : Int32) (yin : Int64) (yfi yde : Int32) (o l kS d : Nat → Int32) (pl : Nat → Int64) (yk yn yp yf : Nat → Int32) : Prop :=
  yma = nI mk ∧ ypo = nI pd ∧ mk ≤ 40 ∧ pd ≤ 400 ∧ vv_cy mk pd o l pl ∧ vv_vy mk yin ∧ (∀ p, vv_y o l kS d pl p yin = T p) ∧
  yfi = nI np ∧ yde = nI nf ∧ yn = pX ∧ yp = pI ∧ yf = fS ∧ ∀ q, q < np → fl_p pO pX pI yk q
/-- Y's state behind the run -/
def kn_res (V : Nat → Prop) (K N Z D P aS : Nat → Int32) (xen xco xac : Int32) (mk pd : Nat) (yma ypo yhe yvm : Int32) (yin : Int64) (yfi yde : Int32) (o l kS d : Nat → Int32) (pl ys : Nat → Int64) (yk yn yp yf : Nat → Int32) (v : SY) : Prop :=
  match v with
  | (yma', ypo', yhe', yvm', yin', yfi', yde', yap', yas', yto', yan', yco', yti', yna', yac', yen', yic', o', l', kS', d', pl', ys', yk', yn', yp', yf', yo', yi', yw', ya', y1', y2', yK', yW', yL', yq', nm', nv', no', yA', lf', rt', iK', iN') => (yma' = yma ∧ ypo' = ypo ∧ yhe' = yhe ∧ yvm' = yvm ∧ yin' = yin ∧ yfi' = yfi ∧ yde' = yde ∧ ys' = ys ∧ yk' = yk ∧ yn' = yn ∧ yp' = yp ∧ yf' = yf) ∧
    (∀ j, j < mk → o' j = o j ∧ l' j = l j ∧ kS' j = kS j ∧ d' j = d j) ∧ (∀ i, i < pd → pl' i = pl i) ∧
    yen' = xen ∧ yco' = xco ∧ yac' = xac ∧ ∃ mk' pd', vv_cy mk' pd' o' l' pl' ∧ ∀ i, i < xac.toNatClampNeg → vv_R V K N Z D P mk' o' l' kS' d' pl' (aS i) (yA' i)
def kn_ok (T : List Nat → Option vv_L) (np nf : Nat) (pO pX pI fS : Nat → Int32) (V : Nat → Prop) (K N Z D P aS : Nat → Int32) (xen xco xac : Int32) : Prop :=
  ∀ (mk pd : Nat) (yma ypo yhe yvm : Int32) (yin : Int64) (yfi yde yap yas yto : Int32) (yan : Int64) (yco yti yna yac yen yic : Int32) (o l kS d : Nat → Int32) (pl ys : Nat → Int64) (yk yn yp yf yo : Nat → Int32) (yi : Nat → Int64) (yw ya y1 y2 : Nat → Int32) (yK : Nat → Int64) (yW : Nat → Int32) (yL : Nat → Int64) (yq nm : Nat → Int32) (nv : Nat → Int64) (no : Nat → Int32) (yA lf rt : Nat → Int64) (iK iN : Nat → Int32),
    kn_fam T np nf pO pX pI fS mk pd yma ypo yin yfi yde o l kS d pl yk yn yp yf →
    ∀ post : SY → Prop, (∀ v, kn_res V K N Z D P aS xen xco xac mk pd yma ypo yhe yvm yin yfi yde o l kS d pl ys yk yn yp yf v → post v) → wpY_work post (yma, ypo, yhe, yvm, yin, yfi, yde, yap, yas, yto, yan, yco, yti, yna, yac, yen, yic, o, l, kS, d, pl, ys, yk, yn, yp, yf, yo, yi, yw, ya, y1, y2, yK, yW, yL, yq, nm, nv, no, yA, lf, rt, iK, iN)
def rl_k (m np nf : Nat) (xin : Int32) (K N Z D Im W P pO pX pI fS aS : Nat → Int32) (xkn xen xco xac : Int32) : Prop :=
  xkn = 0 ∨ (xkn = 1 ∧ ∃ (V : Nat → Prop) (a : Nat), vv_ox V K N Z D Im W P ∧ (∀ s, V s → s < 13 + m ∨ 53 ≤ s) ∧ xac = nI a ∧ a ≤ 20 ∧ (∀ i, i < a → ∃ n, aS i = nI n ∧ V n) ∧
    kn_ok (fun p => vv_x K N Z D P p xin.toNatClampNeg) np nf pO pX pI fS V K N Z D P aS xen xco xac)
def i_Rel (_ : Nat) (u : SX) (v : SY) : Prop :=
  match u, v with
  | (xst, xow, xin, xpa, xfi, xfr, xno, xsi, xan, xkn, xen, xco, xrm, xac, K, N, Z, D, Im, W, P, vS, pO, pX, pI, fS, fP, fI, fU, fR, fO, fA, fH, fG, fN, aS, qL, qR, qP), (yma, ypo, yhe, yvm, yin, yfi, yde, yap, yas, yto, yan, yco, yti, yna, yac, yen, yic, o, l, kS, d, pl, ys, yk, yn, yp, yf, yo, yi, yw, ya, y1, y2, yK, yW, yL, yq, nm, nv, no, yA, lf, rt, iK, iN) => ∃ (V : Nat → Prop) (h m mk pd np nf : Nat), rl_h V h m mk pd xst xow xin K N Z D Im W P vS yma ypo yhe yvm yin o l kS d pl ys ∧ rl_f np nf xpa xfi pO pX pI fS yfi yde yk yn yp yf ∧ rl_k m np nf xin K N Z D Im W P pO pX pI fS aS xkn xen xco xac
theorem i_up {k : Nat} {u : SX} {v : SY} (h : i_Rel k u v) : i_Rel (k + 3) u v := h
end
section
/-! ===== the calls that make no run ===== -/
theorem rl_not45 {K : Nat → Int32} {s κ κ' : Nat} (h : K s = nI κ) (h' : K s = nI κ') (hκ : κ < 16) (hκ' : κ' < 16) : κ = κ' := (nI_eq (by omega) (by omega)).mp (h.symm.trans h')
section
variable {V : Nat → Prop} {K N Z D Im W P K' N' Z' D' Im' W' P' : Nat → Int32} {o l kS d : Nat → Int32} {pl : Nat → Int64} {mk pd : Nat}
/-- a valid slot of a plain kind -/
theorem rl_plain (hx : vv_ox V K N Z D Im W P) {s κ : Nat} (hs : V s) (hκ : κ ≤ 3) (e : K s = nI κ) : (κ < 3 → N s = 0) ∧ Z s = 0 ∧ D s = 0 ∧ Im s = 1 ∧ W s = 1 := by
  obtain ⟨_, ⟨k1, a1, a2, a3, a4⟩ | ⟨k1, z, dd, a1, a2, -⟩⟩ := hx s hs
  · have := rl_not45 e a2 (by omega) (by omega)
    subst this
    exact ⟨a3, a4⟩
  · have := rl_not45 e a2 (by omega) (by omega)
    omega
theorem rl_ox13 (hx : vv_ox V K N Z D Im W P) (hb : rl_b V K N) : vv_ox (fun s => s < 13) K N Z D Im W P := by
  intro s hs
  refine ⟨by omega, Or.inl ?_⟩
  rcases Nat.lt_or_ge s 3 with h | h
  · obtain ⟨a, b⟩ := hb.1 s h
    exact ⟨s, by omega, b, rl_plain hx a (by omega) b⟩
  · obtain ⟨a, b, _⟩ := hb.2 (s - 3) (by omega)
    rw [show 3 + (s - 3) = s by omega] at a b
    exact ⟨3, by omega, b, rl_plain hx a (by omega) b⟩
theorem rl_b13 (hb : rl_b V K N) : rl_b (fun s => s < 13) K N := ⟨fun s hs => ⟨by show s < 13; omega, (hb.1 s hs).2⟩, fun g hg => ⟨by show 3 + g < 13; omega, (hb.2 g hg).2⟩⟩
theorem rl_R0 (hx : vv_ox V K N Z D Im W P) (hb : rl_b V K N) {κ : Nat} (hκ : κ < 3) : vv_R V K N Z D P mk o l kS d pl (nI κ) (yy_t κ 0) := by
  obtain ⟨a, b⟩ := hb.1 κ hκ
  obtain ⟨c, e, f, _⟩ := rl_plain hx a (by omega) b
  exact vv_R_plain (by omega) a (by omega) b (c hκ) e f
theorem kn_ok_up {T : List Nat → Option vv_L} {np nf : Nat} {pO pX pI fS aS : Nat → Int32} {xen xco xac : Int32} (hx : vv_ox V K N Z D Im W P) (e : vv_eq V K N Z D Im W P K' N' Z' D' Im' W' P')
    (h : kn_ok T np nf pO pX pI fS V K N Z D P aS xen xco xac) : kn_ok T np nf pO pX pI fS V K' N' Z' D' P' aS xen xco xac := by
  intro mk pd yma ypo yhe yvm yin yfi yde yap yas yto yan yco yti yna yac yen yic o l kS d pl ys yk yn yp yf yo yi yw ya y1 y2 yK yW yL yq nm nv no yA lf rt iK iN hf post hp
  refine h mk pd yma ypo yhe yvm yin yfi yde yap yas yto yan yco yti yna yac yen yic o l kS d pl ys yk yn yp yf yo yi yw ya y1 y2 yK yW yL yq nm nv no yA lf rt iK iN hf post (fun v hv => hp v ?_)
  obtain ⟨yma', ypo', yhe', yvm', yin', yfi', yde', yap', yas', yto', yan', yco', yti', yna', yac', yen', yic', o', l', kS', d', pl', ys', yk', yn', yp', yf', yo', yi', yw', ya', y1', y2', yK', yW', yL', yq', nm', nv', no', yA', lf', rt', iK', iN'⟩ := v
  obtain ⟨h1, h2, h3, h4, h5, h6, mk', pd', h7, h8⟩ := hv
  exact ⟨h1, h2, h3, h4, h5, h6, mk', pd', h7, fun i hi => vv_R_up hx h7 (fun s hs => ⟨hs, vv_eq_x e s hs⟩) (Nat.le_refl _) (fun j _ => ⟨rfl, rfl, rfl, rfl, fun _ _ _ _ _ _ _ _ => rfl⟩) (h8 i hi)⟩
theorem rl_k_up {m m' np nf : Nat} {xin : Int32} {pO pX pI fS aS : Nat → Int32} {xkn xen xco xac : Int32} (hm : m ≤ m')
    (e : vv_eq (fun s => s < 13 + m ∨ 53 ≤ s) K N Z D Im W P K' N' Z' D' Im' W' P') (ei : ∀ p, vv_x K' N' Z' D' P' p xin.toNatClampNeg = vv_x K N Z D P p xin.toNatClampNeg)
    (h : rl_k m np nf xin K N Z D Im W P pO pX pI fS aS xkn xen xco xac) : rl_k m' np nf xin K' N' Z' D' Im' W' P' pO pX pI fS aS xkn xen xco xac := by
  rcases h with h | ⟨h1, V, a, h2, h3, h4, h5, h6, h7⟩
  · exact Or.inl h
  · have e' : vv_eq V K N Z D Im W P K' N' Z' D' Im' W' P' := fun s hs => e s (h3 s hs)
    refine Or.inr ⟨h1, V, a, vv_ox_eq h2 e', fun s hs => ?_, h4, h5, h6, ?_⟩
    · rcases h3 s hs with z | z
      · exact Or.inl (by omega)
      · exact Or.inr z
    · rw [show (fun p => vv_x K' N' Z' D' P' p xin.toNatClampNeg) = (fun p => vv_x K N Z D P p xin.toNatClampNeg) from funext ei]
      exact kn_ok_up h2 e' h7
end
theorem i_vc_forget {k : Nat} {u : SX} {v : SY} (I : i_Rel k u v) (hk : k + 3 ≤ 1536) : wpX_forget (fun u' => wpY_forget (fun v' => i_Rel (k + 3) u' v') v) u := by
  obtain ⟨xst, xow, xin, xpa, xfi, xfr, xno, xsi, xan, xkn, xen, xco, xrm, xac, K, N, Z, D, Im, W, P, vS, pO, pX, pI, fS, fP, fI, fU, fR, fO, fA, fH, fG, fN, aS, qL, qR, qP⟩ := u
  obtain ⟨yma, ypo, yhe, yvm, yin, yfi, yde, yap, yas, yto, yan, yco, yti, yna, yac, yen, yic, o, l, kS, d, pl, ys, yk, yn, yp, yf, yo, yi, yw, ya, y1, y2, yK, yW, yL, yq, nm, nv, no, yA, lf, rt, iK, iN⟩ := v
  obtain ⟨V, h, m, mk, pd, np, nf, ⟨_, _, _, _, _, _, _, _, _, _, h11, _, h13, _⟩, hf, _⟩ := I
  refine ⟨fun s => s < 13, 0, 0, 0, 0, np, nf, ⟨rfl, rfl, by omega, rfl, rfl, by omega, rfl, rfl, by omega, by omega, rl_ox13 h11 h13, fun s hs => hs, rl_b13 h13, ⟨by omega, by omega, fun j hj => absurd hj (by omega)⟩, fun i hi => absurd hi (by omega), ?_⟩, hf, Or.inl rfl⟩
  show vv_R _ _ _ _ _ _ _ _ _ _ _ _ 0 0
  rw [yy_0]
  exact rl_R0 (rl_ox13 h11 h13) (rl_b13 h13) (κ := 0) (by omega)
theorem i_vc_input {k : Nat} {u : SX} {v : SY} (I : i_Rel k u v) (hk : k + 3 ≤ 1536) : wpX_input (fun r u' => wpY_input (fun r' v' => r' = r ∧ i_Rel (k + 3) u' v') v) u := by
  obtain ⟨xst, xow, xin, xpa, xfi, xfr, xno, xsi, xan, xkn, xen, xco, xrm, xac, K, N, Z, D, Im, W, P, vS, pO, pX, pI, fS, fP, fI, fU, fR, fO, fA, fH, fG, fN, aS, qL, qR, qP⟩ := u
  obtain ⟨yma, ypo, yhe, yvm, yin, yfi, yde, yap, yas, yto, yan, yco, yti, yna, yac, yen, yic, o, l, kS, d, pl, ys, yk, yn, yp, yf, yo, yi, yw, ya, y1, y2, yK, yW, yL, yq, nm, nv, no, yA, lf, rt, iK, iN⟩ := v
  obtain ⟨V, h, m, mk, pd, np, nf, ⟨rfl, rfl, h3, h4, h5, h6, h7, h8, h9, h10, h11, h12, h13, h14, h15, h16⟩, hf, hkn⟩ := I
  unfold wpX_input
  dsimp only
  by_cases hz : h = 0
  · subst hz
    refine br_t rfl ?_
    unfold wpY_input
    dsimp only
    exact br_t rfl ⟨rfl, V, 0, m, mk, pd, np, nf, ⟨rfl, rfl, h3, h4, h5, h6, h7, h8, h9, h10, h11, h12, h13, h14, h15, h16⟩, hf, hkn⟩
  · obtain ⟨h', rfl⟩ : ∃ j, h = j + 1 := ⟨h - 1, by omega⟩
    have hne := nI_ne0 (n := h' + 1) (by omega) (by omega)
    have hin : vp_in (nI h') 12 := vp_in_nI (by omega) (by omega)
    have ec : (nI h').toNatClampNeg = h' := nI_clamp (by omega)
    rw [nI_pred]
    refine br_f hne (nm_e ⟨hin, ?_⟩)
    rw [ec]
    refine nm_e ?_
    unfold wpY_input
    dsimp only
    rw [nI_pred]
    refine br_f hne (nm_e ⟨hin, ?_⟩)
    rw [ec]
    exact nm_e ⟨rfl, V, h', m, mk, pd, np, nf, ⟨rfl, rfl, by omega, h4, h5, h6, h7, h8, h9, h10, h11, h12, h13, h14, fun i hi => h15 i (by omega), h15 h' (by omega)⟩, hf, Or.inl rfl⟩
theorem i_vc_scrap {k : Nat} {u : SX} {v : SY} (I : i_Rel k u v) (hk : k + 3 ≤ 1536) : wpX_scrap (fun r u' => wpY_scrap (fun r' v' => r' = r ∧ i_Rel (k + 3) u' v') v) u := by
  obtain ⟨xst, xow, xin, xpa, xfi, xfr, xno, xsi, xan, xkn, xen, xco, xrm, xac, K, N, Z, D, Im, W, P, vS, pO, pX, pI, fS, fP, fI, fU, fR, fO, fA, fH, fG, fN, aS, qL, qR, qP⟩ := u
  obtain ⟨yma, ypo, yhe, yvm, yin, yfi, yde, yap, yas, yto, yan, yco, yti, yna, yac, yen, yic, o, l, kS, d, pl, ys, yk, yn, yp, yf, yo, yi, yw, ya, y1, y2, yK, yW, yL, yq, nm, nv, no, yA, lf, rt, iK, iN⟩ := v
  obtain ⟨V, h, m, mk, pd, np, nf, hh, ⟨f1, f2, f3, f4, f5, f6, f7, f8, f9, f10, f11⟩, hkn⟩ := I
  unfold wpX_scrap
  dsimp only
  unfold wpY_scrap
  dsimp only
  exact ⟨f5.trans f4.symm, V, h, m, mk, pd, 0, 0, hh, ⟨rfl, rfl, by omega, rfl, rfl, by omega, f7, f8, f9, fun q hq => absurd hq (by omega), fun i hi => absurd hi (by omega)⟩, Or.inl rfl⟩
end
section
/-! ===== value ===== -/
section
variable {V V' : Nat → Prop} {K N Z D Im W P K' N' Z' D' Im' W' P' : Nat → Int32} {o l kS d : Nat → Int32} {pl : Nat → Int64} {mk pd : Nat}
theorem vv_R_ux (hx : vv_ox V K N Z D Im W P) (hy : vv_cy mk pd o l pl) (e : vv_eq V K N Z D Im W P K' N' Z' D' Im' W' P') (hV : ∀ s, V s → V' s) {s : Int32} {w : Int64} (h : vv_R V K N Z D P mk o l kS d pl s w) : vv_R V' K' N' Z' D' P' mk o l kS d pl s w :=
  vv_R_up hx hy (fun s hs => ⟨hV s hs, vv_eq_x e s hs⟩) (Nat.le_refl _) (fun j _ => ⟨rfl, rfl, rfl, rfl, fun _ _ _ _ _ _ _ _ => rfl⟩) h
/-- stores of a plain value into a slot outside the set -/
theorem vv_eq_p {n : Nat} (hV : ∀ s, V s → s ≠ n) (a b : Int32) : vv_eq V K N Z D Im W P (upd K n a) (upd N n b) (upd Z n 0) (upd D n 0) (upd Im n 1) (upd W n 1) P :=
  fun s hs => ⟨pk_un (hV s hs), pk_un (hV s hs), pk_un (hV s hs), pk_un (hV s hs), pk_un (hV s hs), pk_un (hV s hs), fun _ _ => rfl⟩
theorem vv_ox_p (h : vv_ox V K N Z D Im W P) {n : Nat} (hn : n < 653) (hV : ∀ s, V s → s ≠ n) (x : Int32) : vv_ox (fun s => V s ∨ s = n) (upd K n 3) (upd N n x) (upd Z n 0) (upd D n 0) (upd Im n 1) (upd W n 1) P :=
  vv_ox_add h (vv_eq_p hV 3 x) hn (Or.inl ⟨3, by omega, pk_us, fun z => absurd z (by omega), pk_us, pk_us, pk_us, pk_us⟩)
theorem rl_b_up (hb : rl_b V K N) (hV : ∀ s, V s → V' s) (e : ∀ s, V s → K' s = K s ∧ N' s = N s) : rl_b V' K' N' := by
  refine ⟨fun s hs => ?_, fun g hg => ?_⟩
  · obtain ⟨a, b⟩ := hb.1 s hs
    exact ⟨hV s a, (e s a).1.trans b⟩
  · obtain ⟨a, b, c⟩ := hb.2 g hg
    exact ⟨hV _ a, (e _ a).1.trans b, (e _ a).2.trans c⟩
end
theorem xm_value0 {xst xow xin xpa xfi xfr xno xsi xan xkn xen xco xrm xac : Int32} {K N Z D Im W P vS pO pX pI fS fP fI fU fR fO fA fH fG fN aS qL qR qP : Nat → Int32} {post : Int32 → SX → Prop} {h m κ : Nat} {x : Int32} (eh : xst = nI h) (em : xow = nI m) (hh : h < 12) (hm : m < 40) (hκ : κ < 3)
    (hp : post (nI (h + 1)) ((nI (h + 1)), (nI (m + 1)), xin, xpa, xfi, xfr, xno, xsi, xan, xkn, xen, xco, xrm, xac, K, N, Z, D, Im, W, P, (upd vS h (nI κ)), pO, pX, pI, fS, fP, fI, fU, fR, fO, fA, fH, fG, fN, aS, qL, qR, qP)) : wpX_value post (xst, xow, xin, xpa, xfi, xfr, xno, xsi, xan, xkn, xen, xco, xrm, xac, K, N, Z, D, Im, W, P, vS, pO, pX, pI, fS, fP, fI, fU, fR, fO, fA, fH, fG, fN, aS, qL, qR, qP) (nI κ) x := by
  subst eh em
  unfold wpX_value
  dsimp only
  refine br_f (nI_pos (by omega)) (br_t (nI_le (b := 3) (by omega) (by omega)) (br_f (nI_ge (b := 40) hm (by omega)) (br_t (nI_lt (b := 12) hh (by omega)) (br_f ?_ ?_))))
  · exact fun z => absurd ((nI_eq (b := 3) (by omega) (by omega)).mp z) (by omega)
  · unfold wX_value_55
    exact xm_pushOwn rfl rfl hh hp
theorem xm_value3 {xst xow xin xpa xfi xfr xno xsi xan xkn xen xco xrm xac : Int32} {K N Z D Im W P vS pO pX pI fS fP fI fU fR fO fA fH fG fN aS qL qR qP : Nat → Int32} {post : Int32 → SX → Prop} {h m : Nat} {x : Int32} (eh : xst = nI h) (em : xow = nI m) (hh : h < 12) (hm : m < 40)
    (hp : post (nI (h + 1)) ((nI (h + 1)), (nI (m + 1)), xin, xpa, xfi, xfr, xno, xsi, xan, xkn, xen, xco, xrm, xac, (upd K (13 + m) 3), (upd N (13 + m) x), (upd Z (13 + m) 0), (upd D (13 + m) 0), (upd Im (13 + m) 1), (upd W (13 + m) 1), P, (upd vS h (nI (13 + m))), pO, pX, pI, fS, fP, fI, fU, fR, fO, fA, fH, fG, fN, aS, qL, qR, qP)) : wpX_value post (xst, xow, xin, xpa, xfi, xfr, xno, xsi, xan, xkn, xen, xco, xrm, xac, K, N, Z, D, Im, W, P, vS, pO, pX, pI, fS, fP, fI, fU, fR, fO, fA, fH, fG, fN, aS, qL, qR, qP) (nI 3) x := by
  subst eh em
  unfold wpX_value
  dsimp only
  refine br_f (nI_pos (by omega)) (br_t (nI_le (b := 3) (by omega) (by omega)) (br_f (nI_ge (b := 40) hm (by omega)) (br_t (nI_lt (b := 12) hh (by omega)) (br_t rfl (nm_r (xi_13 m) ?_)))))
  refine xm_setPlain (by omega) ?_
  unfold wX_value_55
  exact xm_pushOwn rfl rfl hh hp
theorem ym_value {yma ypo yhe yvm : Int32} {yin : Int64} {yfi yde yap yas yto : Int32} {yan : Int64} {yco yti yna yac yen yic : Int32} {o l kS d : Nat → Int32} {pl ys : Nat → Int64} {yk yn yp yf yo : Nat → Int32} {yi : Nat → Int64} {yw ya y1 y2 : Nat → Int32} {yK : Nat → Int64} {yW : Nat → Int32} {yL : Nat → Int64} {yq nm : Nat → Int32} {nv : Nat → Int64} {no : Nat → Int32} {yA lf rt : Nat → Int64} {iK iN : Nat → Int32} {post : Int32 → SY → Prop} {h m κ : Nat} {x x' : Int32} (eh : yhe = nI h) (em : yvm = nI m) (hh : h < 12) (hm : m < 40) (hκ : κ ≤ 3) (h3 : κ = 3 → x' = x) (h0 : κ < 3 → x' = 0)
    (hp : post (nI (h + 1)) (yma, ypo, (nI (h + 1)), (nI (m + 1)), yin, yfi, yde, yap, yas, yto, yan, yco, yti, yna, yac, yen, yic, o, l, kS, d, pl, (vp_updL ys h (yy_t κ x')), yk, yn, yp, yf, yo, yi, yw, ya, y1, y2, yK, yW, yL, yq, nm, nv, no, yA, lf, rt, iK, iN)) : wpY_value post (yma, ypo, yhe, yvm, yin, yfi, yde, yap, yas, yto, yan, yco, yti, yna, yac, yen, yic, o, l, kS, d, pl, ys, yk, yn, yp, yf, yo, yi, yw, ya, y1, y2, yK, yW, yL, yq, nm, nv, no, yA, lf, rt, iK, iN) (nI κ) x := by
  subst eh em
  have key : wY_value_53 post x' (nI κ) (nI h) yma ypo (nI h) (nI m) yin yfi yde yap yas yto yan yco yti yna yac yen yic o l kS d pl ys yk yn yp yf yo yi yw ya y1 y2 yK yW yL yq nm nv no yA lf rt iK iN := by
    unfold wY_value_53
    refine ym_thing (by omega) ?_
    rw [nI_clamp (show h < 2 ^ 31 by omega), nI_1, nI_1]
    exact ⟨vp_in_nI hh (by omega), nm_e (nm_e (nm_e hp))⟩
  unfold wpY_value
  dsimp only
  refine br_f (nI_pos (by omega)) (br_t (nI_le (b := 3) (by omega) (by omega)) (br_f ?_ (br_f ?_ ?_)))
  · exact fun z => absurd ((nI_eq (b := 40) (by omega) (by omega)).mp z) (by omega)
  · exact fun z => absurd ((nI_eq (b := 12) (by omega) (by omega)).mp z) (by omega)
  · refine pk_eq κ 3 (fun z => ?_) (fun z => ?_)
    · rw [h3 z] at key
      exact key
    · rw [h0 (by omega)] at key
      exact key
theorem i_vc_value {k : Nat} {u : SX} {v : SY} (I : i_Rel k u v) (hk : k + 3 ≤ 1536) (v1 : Int32) (v2 : Int32) : wpX_value (fun r u' => wpY_value (fun r' v' => r' = r ∧ i_Rel (k + 3) u' v') v v1 v2) u v1 v2 := by
  obtain ⟨xst, xow, xin, xpa, xfi, xfr, xno, xsi, xan, xkn, xen, xco, xrm, xac, K, N, Z, D, Im, W, P, vS, pO, pX, pI, fS, fP, fI, fU, fR, fO, fA, fH, fG, fN, aS, qL, qR, qP⟩ := u
  obtain ⟨yma, ypo, yhe, yvm, yin, yfi, yde, yap, yas, yto, yan, yco, yti, yna, yac, yen, yic, o, l, kS, d, pl, ys, yk, yn, yp, yf, yo, yi, yw, ya, y1, y2, yK, yW, yL, yq, nm, nv, no, yA, lf, rt, iK, iN⟩ := v
  have I0 := I
  obtain ⟨V, h, m, mk, pd, np, nf, ⟨rfl, rfl, h3, rfl, rfl, h6, h7, h8, h9, h10, h11, h12, h13, h14, h15, h16⟩, hf, hkn⟩ := I
  by_cases a0 : v1 < 0
  · unfold wpX_value wpY_value
    dsimp only
    exact br_t a0 (br_t a0 ⟨rfl, I0⟩)
  by_cases a3 : v1 ≤ 3
  case neg =>
    unfold wpX_value wpY_value
    dsimp only
    exact br_f a0 (br_f a3 (br_f a0 (br_f a3 ⟨rfl, I0⟩)))
  obtain ⟨κ, hκ, rfl⟩ := nI_of2 (n := 3) (by decide) a0 a3
  by_cases b : m = 40
  · subst b
    unfold wpX_value wpY_value
    dsimp only
    exact br_f a0 (br_t a3 (br_t (nI_le (a := 40) (Nat.le_refl _) (by omega)) (br_f a0 (br_t a3 (br_t rfl ⟨rfl, I0⟩)))))
  by_cases c : h = 12
  · subst c
    have hm : ¬ nI m = 40 := fun z => b ((nI_eq (b := 40) (by omega) (by omega)).mp z)
    unfold wpX_value wpY_value
    dsimp only
    exact br_f a0 (br_t a3 (br_f (nI_ge (b := 40) (by omega) (by omega)) (br_f (nI_nlt (b := 12) (Nat.le_refl _) (by omega)) (br_f a0 (br_t a3 (br_f hm (br_t rfl ⟨rfl, I0⟩)))))))
  have hh : h < 12 := by omega
  have hm : m < 40 := by omega
  by_cases e3 : κ = 3
  · subst e3
    have hne : ∀ s, V s → s ≠ 13 + m := fun s hs => by have := h12 s hs; omega
    refine xm_value3 rfl rfl hh hm (ym_value rfl rfl hh hm hκ (x' := v2) (fun _ => rfl) (fun z => absurd z (by omega)) ?_)
    have hox := vv_ox_p h11 (n := 13 + m) (by omega) hne v2
    have heq := vv_eq_p (V := V) (K := K) (N := N) (Z := Z) (D := D) (Im := Im) (W := W) (P := P) hne 3 v2
    have hup : ∀ {s : Int32} {w : Int64}, vv_R V K N Z D P mk o l kS d pl s w → _ := fun hR => vv_R_ux h11 h14 heq (V' := fun s => V s ∨ s = 13 + m) (fun _ z => Or.inl z) hR
    refine ⟨rfl, fun s => V s ∨ s = 13 + m, h + 1, m + 1, mk, pd, np, nf, ⟨rfl, rfl, by omega, rfl, rfl, by omega, h7, h8, by omega, by omega, hox, fun s hs => ?_, rl_b_up h13 (fun _ z => Or.inl z) (fun s hs => ⟨pk_un (hne s hs), pk_un (hne s hs)⟩), h14, fun i hi => ?_, hup h16⟩, hf, ?_⟩
    · rcases hs with z | z
      · have := h12 s z; omega
      · omega
    · by_cases ei : i = h
      · subst ei
        rw [pk_us, pk_uLs]
        exact vv_R_plain (by omega) (Or.inr rfl) (by omega) pk_us pk_us pk_us pk_us
      · rw [pk_un ei, pk_uLn ei]
        exact hup (h15 i (by omega))
    · refine rl_k_up (Nat.le_succ m) (vv_eq_p (fun s hs => by rcases hs with z | z <;> omega) 3 v2) (fun p => ?_) hkn
      obtain ⟨n, e1, e2, e3, _⟩ := h16
      rw [e1, nI_clamp (by omega)]
      exact vv_x_st h11 (fun s hs => vv_eq_x heq s hs) p n e3
  · refine xm_value0 rfl rfl hh hm (by omega) (ym_value rfl rfl hh hm hκ (x' := 0) (fun z => absurd z e3) (fun _ => rfl) ?_)
    refine ⟨rfl, V, h + 1, m + 1, mk, pd, np, nf, ⟨rfl, rfl, by omega, rfl, rfl, by omega, h7, h8, by omega, by omega, h11, fun s hs => by have := h12 s hs; omega, h13, h14, fun i hi => ?_, h16⟩, hf, ?_⟩
    · by_cases ei : i = h
      · subst ei
        rw [pk_us, pk_uLs]
        exact rl_R0 h11 h13 (by omega)
      · rw [pk_un ei, pk_uLn ei]
        exact h15 i (by omega)
    · exact rl_k_up (Nat.le_succ m) (fun s _ => ⟨rfl, rfl, rfl, rfl, rfl, rfl, fun _ _ => rfl⟩) (fun p => rfl) hkn
end
section
/-! ===== filters are pushed ===== -/
def fl_w (pI fS : Nat → Int32) (np lt : Nat) : Nat → Nat → Int32
  | 0 => pI
  | r + 1 => upd (fl_w pI fS np lt r) (np * 3 + r) (fS (lt + r))
theorem fl_w_lo {pI fS : Nat → Int32} {np lt j : Nat} (hj : j < np * 3) : ∀ r, fl_w pI fS np lt r j = pI j
  | 0 => rfl
  | r + 1 => by rw [fl_w, pk_un (by omega)]; exact fl_w_lo hj r
theorem fl_w_at {pI fS : Nat → Int32} {np lt i : Nat} : ∀ r, i < r → fl_w pI fS np lt r (np * 3 + i) = fS (lt + i)
  | 0, h => absurd h (by omega)
  | r + 1, h => by
    rw [fl_w]
    by_cases e : i = r
    · subst e; rw [pk_us]
    · rw [pk_un (by omega)]; exact fl_w_at r (by omega)
theorem fl_a1 {nf t r : Nat} (h : r < t) (ht : t ≤ nf) : nf - t + r < nf := by omega
theorem fl_a2 {q np r : Nat} (hq : q < np) (hr : r < 3) : q * 3 + r < np * 3 := by omega
theorem fl_ar3 (o : Nat) : fl_ar o ≤ 3 := by unfold fl_ar; split <;> (try split) <;> (try split) <;> omega
theorem fl_a3 {i nf t : Nat} (hi : i < nf - t + 1) (e : i ≠ nf - t) (ht : t ≤ nf) : i < nf := by omega
theorem xm_pushPart {xst xow xin xpa xfi xfr xno xsi xan xkn xen xco xrm xac : Int32} {K N Z D Im W P vS pO pX pI fS fP fI fU fR fO fA fH fG fN aS qL qR qP : Nat → Int32} {post : Int32 → SX → Prop} {np nf t : Nat} {op x : Int32} (ep : xpa = nI np) (ef : xfi = nI nf) (hnp : np < 40) (ht : t ≤ nf) (ht3 : t ≤ 3) (hf8 : nf ≤ 8) (hl : nf - t < 8)
    (hp : post (nI (nf - t + 1)) (xst, xow, xin, (nI (np + 1)), (nI (nf - t + 1)), xfr, xno, xsi, xan, 0, xen, xco, xrm, xac, K, N, Z, D, Im, W, P, vS, (upd pO np op), (upd pX np x), (fl_w pI fS np (nf - t) t), (upd fS (nf - t) (nI np)), fP, fI, fU, fR, fO, fA, fH, fG, fN, aS, qL, qR, qP)) : wpX_pushPart post (xst, xow, xin, xpa, xfi, xfr, xno, xsi, xan, xkn, xen, xco, xrm, xac, K, N, Z, D, Im, W, P, vS, pO, pX, pI, fS, fP, fI, fU, fR, fO, fA, fH, fG, fN, aS, qL, qR, qP) op x (nI t) := by
  subst ep ef
  have ec : (nI np).toNatClampNeg = np := nI_clamp (by omega)
  have el : (nI (nf - t)).toNatClampNeg = nf - t := nI_clamp (by omega)
  have hin : vp_in (nI np) 40 := vp_in_nI hnp (by omega)
  have key : ∀ r i, i + r = t → wX_pushPart_54 post (nI t) (nI (nf - t)) xst xow xin (nI np) (nI nf) xfr xno xsi xan xkn xen xco xrm xac (r + 1) (nI i) K N Z D Im W P vS (upd pO np op) (upd pX np x) (fl_w pI fS np (nf - t) i) fS fP fI fU fR fO fA fH fG fN aS qL qR qP := by
    intro r
    induction r with
    | zero =>
      intro i hi
      have hi' : i = t := by omega
      subst hi'
      unfold wX_pushPart_54
      rw [el, nI_1, nI_1]
      exact br_t (nI_le (Nat.le_refl _) (by omega)) ⟨vp_in_nI hl (by omega), nm_e (nm_e (nm_e hp))⟩
    | succ r ih =>
      intro i hi
      unfold wX_pushPart_54
      rw [nI_add, xi_3, nI_clamp (show nf - t + i < 2 ^ 31 by omega), nI_clamp (show np * 3 + i < 2 ^ 31 by omega)]
      exact br_f (nI_ge (by omega) (by omega)) ⟨vp_in_nI (by omega) (by omega), vp_in_nI (by omega) (by omega), nm_e (nm_r (nI_1 i) (ih (i + 1) (by omega)))⟩
  unfold wpX_pushPart
  dsimp only
  rw [ec, pk_sub ht]
  exact br_t (nI_lt (b := 40) hnp (by omega)) (br_t (nI_le ht (by omega)) (nm_e ⟨hin, nm_e ⟨hin, nm_e ⟨_, key t 0 (by omega)⟩⟩⟩))
theorem yi_3 (s i : Nat) : 3 * nI s + nI i = nI (s * 3 + i) := by
  show nI 3 * nI s + nI i = _
  rw [pk_mul, nI_add, Nat.mul_comm]
theorem ym_push {yma ypo yhe yvm : Int32} {yin : Int64} {yfi yde yap yas yto : Int32} {yan : Int64} {yco yti yna yac yen yic : Int32} {o l kS d : Nat → Int32} {pl ys : Nat → Int64} {yk yn yp yf yo : Nat → Int32} {yi : Nat → Int64} {yw ya y1 y2 : Nat → Int32} {yK : Nat → Int64} {yW : Nat → Int32} {yL : Nat → Int64} {yq nm : Nat → Int32} {nv : Nat → Int64} {no : Nat → Int32} {yA lf rt : Nat → Int64} {iK iN : Nat → Int32} {post : Int32 → SY → Prop} {np nf t : Nat} {op x : Int32} (ep : yfi = nI np) (ef : yde = nI nf) (hnp : np < 40) (ht : t ≤ nf) (ht3 : t ≤ 3) (hf8 : nf ≤ 8) (hl : nf - t < 8)
    (hp : post (nI (nf - t + 1)) (yma, ypo, yhe, yvm, yin, (nI (np + 1)), (nI (nf - t + 1)), yap, yas, yto, yan, yco, yti, yna, yac, yen, yic, o, l, kS, d, pl, ys, (upd yk np op), (upd yn np x), (fl_w yp yf np (nf - t) t), (upd yf (nf - t) (nI np)), yo, yi, yw, ya, y1, y2, yK, yW, yL, yq, nm, nv, no, yA, lf, rt, iK, iN)) : wpY_push post (yma, ypo, yhe, yvm, yin, yfi, yde, yap, yas, yto, yan, yco, yti, yna, yac, yen, yic, o, l, kS, d, pl, ys, yk, yn, yp, yf, yo, yi, yw, ya, y1, y2, yK, yW, yL, yq, nm, nv, no, yA, lf, rt, iK, iN) op x (nI t) := by
  subst ep ef
  have ec : (nI np).toNatClampNeg = np := nI_clamp (by omega)
  have el : (nI (nf - t)).toNatClampNeg = nf - t := nI_clamp (by omega)
  have hin : vp_in (nI np) 40 := vp_in_nI hnp (by omega)
  have key : ∀ r i, i + r = t → wY_push_49 post op x (nI t) yma ypo yhe yvm yin (nI np) (nI (nf - t)) yap yas yto yan yco yti yna yac yen yic (r + 1) (nI i) o l kS d pl ys yk yn (fl_w yp yf np (nf - t) i) yf yo yi yw ya y1 y2 yK yW yL yq nm nv no yA lf rt iK iN := by
    intro r
    induction r with
    | zero =>
      intro i hi
      have hi' : i = t := by omega
      subst hi'
      unfold wY_push_49
      rw [el, ec, nI_1, nI_1]
      exact br_t (nI_le (Nat.le_refl _) (by omega)) ⟨hin, nm_e ⟨hin, nm_e ⟨vp_in_nI hl (by omega), nm_e (nm_e (nm_e hp))⟩⟩⟩
    | succ r ih =>
      intro i hi
      unfold wY_push_49
      rw [nI_add, yi_3, nI_clamp (show nf - t + i < 2 ^ 31 by omega), nI_clamp (show np * 3 + i < 2 ^ 31 by omega)]
      exact br_f (nI_ge (by omega) (by omega)) ⟨vp_in_nI (by omega) (by omega), vp_in_nI (by omega) (by omega), nm_e (nm_r (nI_1 i) (ih (i + 1) (by omega)))⟩
  have k25 : wY_push_25 post op x (nI t) yma ypo yhe yvm yin (nI np) (nI nf) yap yas yto yan yco yti yna yac yen yic o l kS d pl ys yk yn yp yf yo yi yw ya y1 y2 yK yW yL yq nm nv no yA lf rt iK iN := by
    unfold wY_push_25
    rw [pk_sub ht]
    exact br_t (nI_le ht (by omega)) (nm_e ⟨_, key t 0 (by omega)⟩)
  unfold wpY_push
  dsimp only
  refine br_f (fun z => absurd ((nI_eq (b := 40) (by omega) (by omega)).mp z) (by omega)) ?_
  refine br_c (fun z => br_f (fun z' => ?_) k25) (fun _ => k25)
  have h0 := (nI_eq (b := 0) (by omega) (by omega)).mp z
  have h8 := (nI_eq (b := 8) (by omega) (by omega)).mp z'
  omega
/-- what is refused on both sides, whatever is pushed -/
theorem xm_push40 {xst xow xin xpa xfi xfr xno xsi xan xkn xen xco xrm xac : Int32} {K N Z D Im W P vS pO pX pI fS fP fI fU fR fO fA fH fG fN aS qL qR qP : Nat → Int32} {post : Int32 → SX → Prop} {op x t : Int32} (ep : xpa = nI 40) (hp : post (-1000000002) (xst, xow, xin, xpa, xfi, xfr, xno, xsi, xan, xkn, xen, xco, xrm, xac, K, N, Z, D, Im, W, P, vS, pO, pX, pI, fS, fP, fI, fU, fR, fO, fA, fH, fG, fN, aS, qL, qR, qP)) : wpX_pushPart post (xst, xow, xin, xpa, xfi, xfr, xno, xsi, xan, xkn, xen, xco, xrm, xac, K, N, Z, D, Im, W, P, vS, pO, pX, pI, fS, fP, fI, fU, fR, fO, fA, fH, fG, fN, aS, qL, qR, qP) op x t := by
  subst ep
  unfold wpX_pushPart
  dsimp only
  exact br_f (nI_nlt (a := 40) (b := 40) (Nat.le_refl _) (by omega)) hp
theorem xm_pushFew {xst xow xin xpa xfi xfr xno xsi xan xkn xen xco xrm xac : Int32} {K N Z D Im W P vS pO pX pI fS fP fI fU fR fO fA fH fG fN aS qL qR qP : Nat → Int32} {post : Int32 → SX → Prop} {np nf t : Nat} {op x : Int32} (ep : xpa = nI np) (ef : xfi = nI nf) (hnp : np < 40) (ht : nf < t) (ht3 : t ≤ 3) (hp : post (-1000000003) (xst, xow, xin, xpa, xfi, xfr, xno, xsi, xan, xkn, xen, xco, xrm, xac, K, N, Z, D, Im, W, P, vS, pO, pX, pI, fS, fP, fI, fU, fR, fO, fA, fH, fG, fN, aS, qL, qR, qP)) : wpX_pushPart post (xst, xow, xin, xpa, xfi, xfr, xno, xsi, xan, xkn, xen, xco, xrm, xac, K, N, Z, D, Im, W, P, vS, pO, pX, pI, fS, fP, fI, fU, fR, fO, fA, fH, fG, fN, aS, qL, qR, qP) op x (nI t) := by
  subst ep ef
  unfold wpX_pushPart
  dsimp only
  exact br_t (nI_lt (b := 40) hnp (by omega)) (br_f (nI_ge ht (by omega)) hp)
theorem ym_push40 {yma ypo yhe yvm : Int32} {yin : Int64} {yfi yde yap yas yto : Int32} {yan : Int64} {yco yti yna yac yen yic : Int32} {o l kS d : Nat → Int32} {pl ys : Nat → Int64} {yk yn yp yf yo : Nat → Int32} {yi : Nat → Int64} {yw ya y1 y2 : Nat → Int32} {yK : Nat → Int64} {yW : Nat → Int32} {yL : Nat → Int64} {yq nm : Nat → Int32} {nv : Nat → Int64} {no : Nat → Int32} {yA lf rt : Nat → Int64} {iK iN : Nat → Int32} {post : Int32 → SY → Prop} {op x t : Int32} (ep : yfi = nI 40) (hp : post (-1000000002) (yma, ypo, yhe, yvm, yin, yfi, yde, yap, yas, yto, yan, yco, yti, yna, yac, yen, yic, o, l, kS, d, pl, ys, yk, yn, yp, yf, yo, yi, yw, ya, y1, y2, yK, yW, yL, yq, nm, nv, no, yA, lf, rt, iK, iN)) : wpY_push post (yma, ypo, yhe, yvm, yin, yfi, yde, yap, yas, yto, yan, yco, yti, yna, yac, yen, yic, o, l, kS, d, pl, ys, yk, yn, yp, yf, yo, yi, yw, ya, y1, y2, yK, yW, yL, yq, nm, nv, no, yA, lf, rt, iK, iN) op x t := by
  subst ep
  unfold wpY_push
  dsimp only
  exact br_t rfl hp
theorem ym_pushFew {yma ypo yhe yvm : Int32} {yin : Int64} {yfi yde yap yas yto : Int32} {yan : Int64} {yco yti yna yac yen yic : Int32} {o l kS d : Nat → Int32} {pl ys : Nat → Int64} {yk yn yp yf yo : Nat → Int32} {yi : Nat → Int64} {yw ya y1 y2 : Nat → Int32} {yK : Nat → Int64} {yW : Nat → Int32} {yL : Nat → Int64} {yq nm : Nat → Int32} {nv : Nat → Int64} {no : Nat → Int32} {yA lf rt : Nat → Int64} {iK iN : Nat → Int32} {post : Int32 → SY → Prop} {np nf t : Nat} {op x : Int32} (ep : yfi = nI np) (ef : yde = nI nf) (hnp : np < 40) (ht : nf < t) (ht3 : t ≤ 3) (hp : post (-1000000003) (yma, ypo, yhe, yvm, yin, yfi, yde, yap, yas, yto, yan, yco, yti, yna, yac, yen, yic, o, l, kS, d, pl, ys, yk, yn, yp, yf, yo, yi, yw, ya, y1, y2, yK, yW, yL, yq, nm, nv, no, yA, lf, rt, iK, iN)) : wpY_push post (yma, ypo, yhe, yvm, yin, yfi, yde, yap, yas, yto, yan, yco, yti, yna, yac, yen, yic, o, l, kS, d, pl, ys, yk, yn, yp, yf, yo, yi, yw, ya, y1, y2, yK, yW, yL, yq, nm, nv, no, yA, lf, rt, iK, iN) op x (nI t) := by
  subst ep ef
  unfold wpY_push
  dsimp only
  refine br_f (fun z => absurd ((nI_eq (b := 40) (by omega) (by omega)).mp z) (by omega)) (br_f (nI_ne0 (by omega) (by omega)) ?_)
  unfold wY_push_25
  exact br_f (nI_ge ht (by omega)) hp
/-- the filters behind a push -/
theorem rl_f_push {np nf t o : Nat} {xpa xfi yfi yde x : Int32} {pO pX pI fS yk yn yp yf : Nat → Int32} (h : rl_f np nf xpa xfi pO pX pI fS yfi yde yk yn yp yf) (hnp : np < 40) (ht : t ≤ nf) (hl : nf - t < 8) (ho : o ≤ 35) (ha : fl_ar o = t)
    (hx : (o = 5 → ∃ m, m < 8 ∧ x = nI m) ∧ (o = 6 → -10 ≤ x.toInt ∧ x.toInt ≤ 9) ∧ (o = 13 → ∃ m, m < 3 ∧ x = nI m) ∧ (o = 18 → ∃ m, m < 10 ∧ x = nI m) ∧ (o = 20 → ∃ m, m < 8 ∧ x = nI m) ∧ (o = 33 → ∃ m, m < 3 ∧ x = nI m) ∧ (o = 35 → ∃ m, m < 3 ∧ x = nI m)) :
    rl_f (np + 1) (nf - t + 1) (nI (np + 1)) (nI (nf - t + 1)) (upd pO np (nI o)) (upd pX np x) (fl_w pI fS np (nf - t) t) (upd fS (nf - t) (nI np)) (nI (np + 1)) (nI (nf - t + 1)) (upd yk np (nI (fl_kk o))) (upd yn np x) (fl_w yp yf np (nf - t) t) (upd yf (nf - t) (nI np)) := by
  obtain ⟨f1, f2, f3, f4, f5, f6, rfl, rfl, rfl, f10, f11⟩ := h
  refine ⟨rfl, rfl, hnp, rfl, rfl, hl, rfl, rfl, rfl, fun q hq => ?_, fun i hi => ?_⟩
  · by_cases e : q = np
    · subst e
      refine ⟨o, ho, pk_us, pk_us, fun r hr => ?_, ?_⟩
      · have hr' : r < t := by rw [← ha]; exact hr
        rw [fl_w_at t hr']
        exact f11 _ (fl_a1 hr' ht)
      · rw [pk_us]
        exact hx
    · obtain ⟨o', a1, a2, a3, a4, a5⟩ := f10 q (Nat.lt_of_le_of_ne (Nat.le_of_lt_succ hq) e)
      refine ⟨o', a1, (pk_un e).trans a2, (pk_un e).trans a3, fun r hr => ?_, ?_⟩
      · rw [fl_w_lo (fl_a2 (Nat.lt_of_le_of_ne (Nat.le_of_lt_succ hq) e) (Nat.lt_of_lt_of_le hr (fl_ar3 o'))) t]
        exact a4 r hr
      · rw [pk_un e]
        exact a5
  · by_cases e : i = nf - t
    · subst e
      exact ⟨np, pk_us, Nat.lt_succ_self _⟩
    · rw [pk_un e]
      obtain ⟨c, c1, c2⟩ := f11 i (fl_a3 hi e ht)
      exact ⟨c, c1, Nat.lt_succ_of_lt c2⟩
end
section
/-! ===== leaf, one, two, three ===== -/
theorem pu_lt {x a b : Int32} (h : b.toInt + 1 = a.toInt) : x < a ↔ ¬ b < x := by
  rw [Int32.lt_iff_toInt_lt, Int32.lt_iff_toInt_lt]
  omega
theorem pu_rng {x a : Int32} {n : Nat} (ha : a = nI n) (hn : n < 2 ^ 31) (h0 : ¬ x < 0) (h : x < a) : ∃ m, m < n ∧ x = nI m := by
  subst ha
  rcases pk_ix x hn with z | z | z
  · exact absurd z h0
  · exact absurd h (Int32.not_lt.mpr z)
  · exact z
theorem ym_isIn {yma ypo yhe yvm : Int32} {yin : Int64} {yfi yde yap yas yto : Int32} {yan : Int64} {yco yti yna yac yen yic : Int32} {o l kS d : Nat → Int32} {pl ys : Nat → Int64} {yk yn yp yf yo : Nat → Int32} {yi : Nat → Int64} {yw ya y1 y2 : Nat → Int32} {yK : Nat → Int64} {yW : Nat → Int32} {yL : Nat → Int64} {yq nm : Nat → Int32} {nv : Nat → Int64} {no : Nat → Int32} {yA lf rt : Nat → Int64} {iK iN : Nat → Int32} {post : Int32 → Prop} {a b c : Int32} (h0 : (a < b ∨ c < a) → post 0) (h1 : ¬ a < b → ¬ c < a → post 1) : wpY_isIn post (yma, ypo, yhe, yvm, yin, yfi, yde, yap, yas, yto, yan, yco, yti, yna, yac, yen, yic, o, l, kS, d, pl, ys, yk, yn, yp, yf, yo, yi, yw, ya, y1, y2, yK, yW, yL, yq, nm, nv, no, yA, lf, rt, iK, iN) a b c := by
  unfold wpY_isIn
  dsimp only
  exact br_c (fun z => h0 (Or.inl z)) (fun z => br_c (fun z' => h0 (Or.inr z')) (fun z' => h1 z z'))
/-- a push that fits: one answer on both sides -/
theorem pu_ans {k : Nat} {xst xow xin xpa xfi xfr xno xsi xan xkn xen xco xrm xac : Int32} {K N Z D Im W P vS pO pX pI fS fP fI fU fR fO fA fH fG fN aS qL qR qP : Nat → Int32} {yma ypo yhe yvm : Int32} {yin : Int64} {yfi yde yap yas yto : Int32} {yan : Int64} {yco yti yna yac yen yic : Int32} {o l kS d : Nat → Int32} {pl ys : Nat → Int64} {yk yn yp yf yo : Nat → Int32} {yi : Nat → Int64} {yw ya y1 y2 : Nat → Int32} {yK : Nat → Int64} {yW : Nat → Int32} {yL : Nat → Int64} {yq nm : Nat → Int32} {nv : Nat → Int64} {no : Nat → Int32} {yA lf rt : Nat → Int64} {iK iN : Nat → Int32} {oq t : Nat} {x : Int32} (I : i_Rel k (xst, xow, xin, xpa, xfi, xfr, xno, xsi, xan, xkn, xen, xco, xrm, xac, K, N, Z, D, Im, W, P, vS, pO, pX, pI, fS, fP, fI, fU, fR, fO, fA, fH, fG, fN, aS, qL, qR, qP) (yma, ypo, yhe, yvm, yin, yfi, yde, yap, yas, yto, yan, yco, yti, yna, yac, yen, yic, o, l, kS, d, pl, ys, yk, yn, yp, yf, yo, yi, yw, ya, y1, y2, yK, yW, yL, yq, nm, nv, no, yA, lf, rt, iK, iN)) (ho : oq ≤ 35) (ha : fl_ar oq = t) (h8 : t = 0 → xfi ≠ nI 8)
    (hx : (oq = 5 → ∃ m, m < 8 ∧ x = nI m) ∧ (oq = 6 → -10 ≤ x.toInt ∧ x.toInt ≤ 9) ∧ (oq = 13 → ∃ m, m < 3 ∧ x = nI m) ∧ (oq = 18 → ∃ m, m < 10 ∧ x = nI m) ∧ (oq = 20 → ∃ m, m < 8 ∧ x = nI m) ∧ (oq = 33 → ∃ m, m < 3 ∧ x = nI m) ∧ (oq = 35 → ∃ m, m < 3 ∧ x = nI m)) :
    ∃ (r : Int32) (u' : SX) (v' : SY), i_Rel (k + 3) u' v' ∧ (∀ post : Int32 → SX → Prop, post r u' → wpX_pushPart post (xst, xow, xin, xpa, xfi, xfr, xno, xsi, xan, xkn, xen, xco, xrm, xac, K, N, Z, D, Im, W, P, vS, pO, pX, pI, fS, fP, fI, fU, fR, fO, fA, fH, fG, fN, aS, qL, qR, qP) (nI oq) x (nI t)) ∧ (∀ post : Int32 → SY → Prop, post r v' → wpY_push post (yma, ypo, yhe, yvm, yin, yfi, yde, yap, yas, yto, yan, yco, yti, yna, yac, yen, yic, o, l, kS, d, pl, ys, yk, yn, yp, yf, yo, yi, yw, ya, y1, y2, yK, yW, yL, yq, nm, nv, no, yA, lf, rt, iK, iN) (nI (fl_kk oq)) x (nI t)) := by
  have I0 := I
  obtain ⟨V, h, m, mk, pd, np, nf, hh, hf, hkn⟩ := I
  have hf0 := hf
  obtain ⟨f1, f2, f3, f4, f5, f6, f7⟩ := hf
  have h3 : t ≤ 3 := by rw [← ha]; unfold fl_ar; split <;> (try split) <;> (try split) <;> omega
  by_cases e40 : np = 40
  · subst e40
    exact ⟨_, _, _, i_up I0, fun post hp => xm_push40 f1 hp, fun post hp => ym_push40 f2 hp⟩
  by_cases eF : nf < t
  · exact ⟨_, _, _, i_up I0, fun post hp => xm_pushFew f1 f4 (Nat.lt_of_le_of_ne f3 e40) eF h3 hp, fun post hp => ym_pushFew f2 f5 (Nat.lt_of_le_of_ne f3 e40) eF h3 hp⟩
  have hl : nf - t < 8 := by
    have : t = 0 → nf ≠ 8 := fun z e => h8 z (by rw [f4, e])
    clear hx f7 hf0 I0 hh hkn
    omega
  have hn4 : np < 40 := Nat.lt_of_le_of_ne f3 e40
  have ht4 : t ≤ nf := Nat.not_lt.mp eF
  exact ⟨_, _, _, ⟨V, h, m, mk, pd, np + 1, nf - t + 1, hh, rl_f_push hf0 hn4 ht4 hl ho ha hx, Or.inl rfl⟩, fun post hp => xm_pushPart f1 f4 hn4 ht4 h3 f6 hl hp, fun post hp => ym_push f2 f5 hn4 ht4 h3 f6 hl hp⟩
theorem fl_v : fl_kk 16 = 20 ∧ fl_kk 17 = 21 ∧ fl_kk 18 = 22 ∧ fl_kk 19 = 23 ∧ fl_kk 20 = 24 := by decide
theorem fl_k0 {o : Nat} (h : o < 16) : fl_kk o = o ∧ fl_ar o = 0 := ⟨by unfold fl_kk; rw [if_pos h], by unfold fl_ar; rw [if_pos h]⟩
theorem fl_k1 {j : Nat} (h : j < 5) : fl_kk (16 + j) = 20 + j ∧ fl_ar (16 + j) = 1 := ⟨by unfold fl_kk; rw [if_neg (by omega), if_pos (by omega)]; omega, by unfold fl_ar; rw [if_neg (by omega), if_pos (by omega)]⟩
theorem fl_k2 {j : Nat} (h : j < 13) : fl_kk (21 + j) = 30 + j ∧ fl_ar (21 + j) = 2 := ⟨by unfold fl_kk; rw [if_neg (by omega), if_neg (by omega), if_pos (by omega)]; omega, by unfold fl_ar; rw [if_neg (by omega), if_neg (by omega), if_pos (by omega)]⟩
theorem fl_k3 {j : Nat} (h : j < 2) : fl_kk (34 + j) = 50 + j ∧ fl_ar (34 + j) = 3 := ⟨by unfold fl_kk; rw [if_neg (by omega), if_neg (by omega), if_neg (by omega)]; omega, by unfold fl_ar; rw [if_neg (by omega), if_neg (by omega), if_neg (by omega)]⟩
theorem i_vc_three {k : Nat} {u : SX} {v : SY} (I : i_Rel k u v) (hk : k + 3 ≤ 1536) (v1 : Int32) (v2 : Int32) : wpX_three (fun r u' => wpY_three (fun r' v' => r' = r ∧ i_Rel (k + 3) u' v') v v1 v2) u v1 v2 := by
  obtain ⟨xst, xow, xin, xpa, xfi, xfr, xno, xsi, xan, xkn, xen, xco, xrm, xac, K, N, Z, D, Im, W, P, vS, pO, pX, pI, fS, fP, fI, fU, fR, fO, fA, fH, fG, fN, aS, qL, qR, qP⟩ := u
  obtain ⟨yma, ypo, yhe, yvm, yin, yfi, yde, yap, yas, yto, yan, yco, yti, yna, yac, yen, yic, o, l, kS, d, pl, ys, yk, yn, yp, yf, yo, yi, yw, ya, y1, y2, yK, yW, yL, yq, nm, nv, no, yA, lf, rt, iK, iN⟩ := v
  have bad : ∀ r : Int32, (v1 < 0 ∨ 1 < v1 ∨ (v1 = 1 ∧ (v2 < 0 ∨ 2 < v2))) → r = -1000000001 → wpY_three (fun r' v' => r' = r ∧ i_Rel (k + 3) (xst, xow, xin, xpa, xfi, xfr, xno, xsi, xan, xkn, xen, xco, xrm, xac, K, N, Z, D, Im, W, P, vS, pO, pX, pI, fS, fP, fI, fU, fR, fO, fA, fH, fG, fN, aS, qL, qR, qP) v') (yma, ypo, yhe, yvm, yin, yfi, yde, yap, yas, yto, yan, yco, yti, yna, yac, yen, yic, o, l, kS, d, pl, ys, yk, yn, yp, yf, yo, yi, yw, ya, y1, y2, yK, yW, yL, yq, nm, nv, no, yA, lf, rt, iK, iN) v1 v2 := by
    intro r hb hr
    subst hr
    have hz : wY_three_29 (fun r' v' => r' = -1000000001 ∧ i_Rel (k + 3) (xst, xow, xin, xpa, xfi, xfr, xno, xsi, xan, xkn, xen, xco, xrm, xac, K, N, Z, D, Im, W, P, vS, pO, pX, pI, fS, fP, fI, fU, fR, fO, fA, fH, fG, fN, aS, qL, qR, qP) v') v1 v2 yma ypo yhe yvm yin yfi yde yap yas yto yan yco yti yna yac yen yic o l kS d pl ys yk yn yp yf yo yi yw ya y1 y2 yK yW yL yq nm nv no yA lf rt iK iN := by
      unfold wY_three_29 wY_three_30
      exact br_t rfl ⟨rfl, I⟩
    unfold wpY_three
    dsimp only
    refine ym_isIn (fun _ => br_t rfl hz) (fun n0 n1 => br_f (by decide) (br_c (fun e1 => ym_isIn (fun _ => br_t rfl hz) (fun m0 m2 => ?_)) (fun ne => ?_)))
    · exact absurd hb (fun w => w.elim n0 (fun w => w.elim n1 (fun w => w.2.elim m0 m2)))
    · exact absurd hb (fun w => w.elim n0 (fun w => w.elim n1 (fun w => ne w.1)))
  unfold wpX_three
  dsimp only
  refine br_c (fun z => bad _ (Or.inl z) rfl) (fun n0 => br_c (fun n1 => ?_) (fun z => bad _ (Or.inr (Or.inl (Int32.not_le.mp z))) rfl))
  obtain ⟨j, hj, rfl⟩ := nI_of2 (n := 1) (by decide) n0 n1
  have go : (j = 1 → ∃ m, m < 3 ∧ v2 = nI m) → wX_three_35 (fun r u' => wpY_three (fun r' v' => r' = r ∧ i_Rel (k + 3) u' v') (yma, ypo, yhe, yvm, yin, yfi, yde, yap, yas, yto, yan, yco, yti, yna, yac, yen, yic, o, l, kS, d, pl, ys, yk, yn, yp, yf, yo, yi, yw, ya, y1, y2, yK, yW, yL, yq, nm, nv, no, yA, lf, rt, iK, iN) (nI j) v2) v2 (nI (34 + j)) xst xow xin xpa xfi xfr xno xsi xan xkn xen xco xrm xac K N Z D Im W P vS pO pX pI fS fP fI fU fR fO fA fH fG fN aS qL qR qP := by
    intro hm
    obtain ⟨r, u', v', hI, hX, hY⟩ := pu_ans (x := v2) I (show 34 + j ≤ 35 by omega) (fl_k3 (by omega)).2 (fun z => absurd z (by decide)) ⟨fun z => absurd z (by omega), fun z => absurd z (by omega), fun z => absurd z (by omega), fun z => absurd z (by omega), fun z => absurd z (by omega), fun z => absurd z (by omega), fun z => hm (by omega)⟩
    rw [(fl_k3 (by omega)).1] at hY
    obtain ⟨xst', xow', xin', xpa', xfi', xfr', xno', xsi', xan', xkn', xen', xco', xrm', xac', K', N', Z', D', Im', W', P', vS', pO', pX', pI', fS', fP', fI', fU', fR', fO', fA', fH', fG', fN', aS', qL', qR', qP'⟩ := u'
    obtain ⟨yma', ypo', yhe', yvm', yin', yfi', yde', yap', yas', yto', yan', yco', yti', yna', yac', yen', yic', o', l', kS', d', pl', ys', yk', yn', yp', yf', yo', yi', yw', ya', y1', y2', yK', yW', yL', yq', nm', nv', no', yA', lf', rt', iK', iN'⟩ := v'
    unfold wX_three_35
    refine hX _ ?_
    dsimp only
    have hz : wY_three_25 (fun r' v' => r' = r ∧ i_Rel (k + 3) (xst', xow', xin', xpa', xfi', xfr', xno', xsi', xan', xkn', xen', xco', xrm', xac', K', N', Z', D', Im', W', P', vS', pO', pX', pI', fS', fP', fI', fU', fR', fO', fA', fH', fG', fN', aS', qL', qR', qP') v') (nI j) v2 yma ypo yhe yvm yin yfi yde yap yas yto yan yco yti yna yac yen yic o l kS d pl ys yk yn yp yf yo yi yw ya y1 y2 yK yW yL yq nm nv no yA lf rt iK iN := by
      unfold wY_three_25 wY_three_30
      refine br_f (by decide) ?_
      rw [show (50 : Int32) + nI j = nI (50 + j) from nI_add 50 j]
      exact hY _ ⟨rfl, hI⟩
    unfold wpY_three
    dsimp only
    refine ym_isIn (fun w => absurd w ?_) (fun _ _ => br_f (by decide) (br_c (fun e1 => ym_isIn (fun w => absurd w ?_) (fun _ _ => br_f (by decide) hz)) (fun _ => hz)))
    · exact fun w => w.elim n0 (fun w => Int32.not_lt.mpr n1 w)
    · obtain ⟨m, m1, rfl⟩ := hm ((nI_eq (b := 1) (by omega) (by omega)).mp e1)
      exact fun w => w.elim (nI_pos (by omega)) (nI_nlt (a := 2) (by omega) (by omega))
  rw [show (34 : Int32) + nI j = nI (34 + j) from nI_add 34 j]
  refine nm_e (br_c (fun e => ?_) (fun ne => go (fun e => absurd (by rw [e]; rfl) ne)))
  have e1 : j = 1 := by
    have := (nI_eq (b := 35) (by omega) (by omega)).mp e
    omega
  subst e1
  refine br_c (fun z => bad _ (Or.inr (Or.inr ⟨rfl, Or.inl z⟩)) rfl) (fun m0 => br_c (fun m3 => go (fun _ => pu_rng rfl (by decide) m0 m3)) (fun z => bad _ (Or.inr (Or.inr ⟨rfl, Or.inr ?_⟩)) rfl))
  exact Classical.not_not.mp (fun w => z ((pu_lt (by decide)).mpr w))
end
section
theorem i_vc_two {k : Nat} {u : SX} {v : SY} (I : i_Rel k u v) (hk : k + 3 ≤ 1536) (v1 : Int32) (v2 : Int32) : wpX_two (fun r u' => wpY_two (fun r' v' => r' = r ∧ i_Rel (k + 3) u' v') v v1 v2) u v1 v2 := by
  obtain ⟨xst, xow, xin, xpa, xfi, xfr, xno, xsi, xan, xkn, xen, xco, xrm, xac, K, N, Z, D, Im, W, P, vS, pO, pX, pI, fS, fP, fI, fU, fR, fO, fA, fH, fG, fN, aS, qL, qR, qP⟩ := u
  obtain ⟨yma, ypo, yhe, yvm, yin, yfi, yde, yap, yas, yto, yan, yco, yti, yna, yac, yen, yic, o, l, kS, d, pl, ys, yk, yn, yp, yf, yo, yi, yw, ya, y1, y2, yK, yW, yL, yq, nm, nv, no, yA, lf, rt, iK, iN⟩ := v
  have bad : ∀ r : Int32, (v1 < 0 ∨ 12 < v1 ∨ (v1 = 12 ∧ (v2 < 0 ∨ 2 < v2))) → r = -1000000001 → wpY_two (fun r' v' => r' = r ∧ i_Rel (k + 3) (xst, xow, xin, xpa, xfi, xfr, xno, xsi, xan, xkn, xen, xco, xrm, xac, K, N, Z, D, Im, W, P, vS, pO, pX, pI, fS, fP, fI, fU, fR, fO, fA, fH, fG, fN, aS, qL, qR, qP) v') (yma, ypo, yhe, yvm, yin, yfi, yde, yap, yas, yto, yan, yco, yti, yna, yac, yen, yic, o, l, kS, d, pl, ys, yk, yn, yp, yf, yo, yi, yw, ya, y1, y2, yK, yW, yL, yq, nm, nv, no, yA, lf, rt, iK, iN) v1 v2 := by
    intro r hb hr
    subst hr
    have hz : wY_two_31 (fun r' v' => r' = -1000000001 ∧ i_Rel (k + 3) (xst, xow, xin, xpa, xfi, xfr, xno, xsi, xan, xkn, xen, xco, xrm, xac, K, N, Z, D, Im, W, P, vS, pO, pX, pI, fS, fP, fI, fU, fR, fO, fA, fH, fG, fN, aS, qL, qR, qP) v') v1 v2 yma ypo yhe yvm yin yfi yde yap yas yto yan yco yti yna yac yen yic o l kS d pl ys yk yn yp yf yo yi yw ya y1 y2 yK yW yL yq nm nv no yA lf rt iK iN := by
      unfold wY_two_31 wY_two_32
      exact br_t rfl ⟨rfl, I⟩
    unfold wpY_two
    dsimp only
    refine ym_isIn (fun _ => br_t rfl hz) (fun n0 n1 => br_f (by decide) (br_c (fun e1 => ym_isIn (fun _ => br_t rfl hz) (fun m0 m2 => ?_)) (fun ne => ?_)))
    · exact absurd hb (fun w => w.elim n0 (fun w => w.elim n1 (fun w => w.2.elim m0 m2)))
    · exact absurd hb (fun w => w.elim n0 (fun w => w.elim n1 (fun w => ne w.1)))
  unfold wpX_two
  dsimp only
  refine br_c (fun z => bad _ (Or.inl z) rfl) (fun n0 => br_c (fun n1 => ?_) (fun z => bad _ (Or.inr (Or.inl (Int32.not_le.mp z))) rfl))
  obtain ⟨j, hj, rfl⟩ := nI_of2 (n := 12) (by decide) n0 n1
  have go : (j = 12 → ∃ m, m < 3 ∧ v2 = nI m) → wX_two_36 (fun r u' => wpY_two (fun r' v' => r' = r ∧ i_Rel (k + 3) u' v') (yma, ypo, yhe, yvm, yin, yfi, yde, yap, yas, yto, yan, yco, yti, yna, yac, yen, yic, o, l, kS, d, pl, ys, yk, yn, yp, yf, yo, yi, yw, ya, y1, y2, yK, yW, yL, yq, nm, nv, no, yA, lf, rt, iK, iN) (nI j) v2) v2 (nI (21 + j)) xst xow xin xpa xfi xfr xno xsi xan xkn xen xco xrm xac K N Z D Im W P vS pO pX pI fS fP fI fU fR fO fA fH fG fN aS qL qR qP := by
    intro hm
    obtain ⟨r, u', v', hI, hX, hY⟩ := pu_ans (x := v2) I (show 21 + j ≤ 35 by omega) (fl_k2 (by omega)).2 (fun z => absurd z (by decide)) ⟨fun z => absurd z (by omega), fun z => absurd z (by omega), fun z => absurd z (by omega), fun z => absurd z (by omega), fun z => absurd z (by omega), fun z => hm (by omega), fun z => absurd z (by omega)⟩
    rw [(fl_k2 (by omega)).1] at hY
    obtain ⟨xst', xow', xin', xpa', xfi', xfr', xno', xsi', xan', xkn', xen', xco', xrm', xac', K', N', Z', D', Im', W', P', vS', pO', pX', pI', fS', fP', fI', fU', fR', fO', fA', fH', fG', fN', aS', qL', qR', qP'⟩ := u'
    obtain ⟨yma', ypo', yhe', yvm', yin', yfi', yde', yap', yas', yto', yan', yco', yti', yna', yac', yen', yic', o', l', kS', d', pl', ys', yk', yn', yp', yf', yo', yi', yw', ya', y1', y2', yK', yW', yL', yq', nm', nv', no', yA', lf', rt', iK', iN'⟩ := v'
    unfold wX_two_36
    refine hX _ ?_
    dsimp only
    have hz : wY_two_27 (fun r' v' => r' = r ∧ i_Rel (k + 3) (xst', xow', xin', xpa', xfi', xfr', xno', xsi', xan', xkn', xen', xco', xrm', xac', K', N', Z', D', Im', W', P', vS', pO', pX', pI', fS', fP', fI', fU', fR', fO', fA', fH', fG', fN', aS', qL', qR', qP') v') (nI j) v2 yma ypo yhe yvm yin yfi yde yap yas yto yan yco yti yna yac yen yic o l kS d pl ys yk yn yp yf yo yi yw ya y1 y2 yK yW yL yq nm nv no yA lf rt iK iN := by
      unfold wY_two_27 wY_two_32
      refine br_f (by decide) ?_
      rw [show (30 : Int32) + nI j = nI (30 + j) from nI_add 30 j]
      exact hY _ ⟨rfl, hI⟩
    unfold wpY_two
    dsimp only
    refine ym_isIn (fun w => absurd w ?_) (fun _ _ => br_f (by decide) (br_c (fun e1 => ym_isIn (fun w => absurd w ?_) (fun _ _ => br_f (by decide) hz)) (fun _ => hz)))
    · exact fun w => w.elim n0 (fun w => Int32.not_lt.mpr n1 w)
    · obtain ⟨m, m1, rfl⟩ := hm ((nI_eq (b := 12) (by omega) (by omega)).mp e1)
      exact fun w => w.elim (nI_pos (by omega)) (nI_nlt (a := 2) (by omega) (by omega))
  rw [show (21 : Int32) + nI j = nI (21 + j) from nI_add 21 j]
  refine nm_e (br_c (fun e => ?_) (fun ne => go (fun e => absurd (by rw [e]; rfl) ne)))
  have e1 : j = 12 := by
    have := (nI_eq (b := 33) (by omega) (by omega)).mp e
    omega
  subst e1
  refine br_c (fun z => bad _ (Or.inr (Or.inr ⟨rfl, Or.inl z⟩)) rfl) (fun m0 => br_c (fun m3 => go (fun _ => pu_rng rfl (by decide) m0 m3)) (fun z => bad _ (Or.inr (Or.inr ⟨rfl, Or.inr ?_⟩)) rfl))
  exact Classical.not_not.mp (fun w => z ((pu_lt (by decide)).mpr w))
theorem i_vc_one {k : Nat} {u : SX} {v : SY} (I : i_Rel k u v) (hk : k + 3 ≤ 1536) (v1 : Int32) (v2 : Int32) : wpX_one (fun r u' => wpY_one (fun r' v' => r' = r ∧ i_Rel (k + 3) u' v') v v1 v2) u v1 v2 := by
  obtain ⟨xst, xow, xin, xpa, xfi, xfr, xno, xsi, xan, xkn, xen, xco, xrm, xac, K, N, Z, D, Im, W, P, vS, pO, pX, pI, fS, fP, fI, fU, fR, fO, fA, fH, fG, fN, aS, qL, qR, qP⟩ := u
  obtain ⟨yma, ypo, yhe, yvm, yin, yfi, yde, yap, yas, yto, yan, yco, yti, yna, yac, yen, yic, o, l, kS, d, pl, ys, yk, yn, yp, yf, yo, yi, yw, ya, y1, y2, yK, yW, yL, yq, nm, nv, no, yA, lf, rt, iK, iN⟩ := v
  have bad : ∀ r : Int32, (v1 < 0 ∨ 4 < v1 ∨ (v1 = 2 ∧ (v2 < 0 ∨ 9 < v2)) ∨ (v1 = 4 ∧ (v2 < 0 ∨ 7 < v2))) → r = -1000000001 → wpY_one (fun r' v' => r' = r ∧ i_Rel (k + 3) (xst, xow, xin, xpa, xfi, xfr, xno, xsi, xan, xkn, xen, xco, xrm, xac, K, N, Z, D, Im, W, P, vS, pO, pX, pI, fS, fP, fI, fU, fR, fO, fA, fH, fG, fN, aS, qL, qR, qP) v') (yma, ypo, yhe, yvm, yin, yfi, yde, yap, yas, yto, yan, yco, yti, yna, yac, yen, yic, o, l, kS, d, pl, ys, yk, yn, yp, yf, yo, yi, yw, ya, y1, y2, yK, yW, yL, yq, nm, nv, no, yA, lf, rt, iK, iN) v1 v2 := by
    intro r hb hr
    subst hr
    have hz : wY_one_46 (fun r' v' => r' = -1000000001 ∧ i_Rel (k + 3) (xst, xow, xin, xpa, xfi, xfr, xno, xsi, xan, xkn, xen, xco, xrm, xac, K, N, Z, D, Im, W, P, vS, pO, pX, pI, fS, fP, fI, fU, fR, fO, fA, fH, fG, fN, aS, qL, qR, qP) v') v1 v2 yma ypo yhe yvm yin yfi yde yap yas yto yan yco yti yna yac yen yic o l kS d pl ys yk yn yp yf yo yi yw ya y1 y2 yK yW yL yq nm nv no yA lf rt iK iN := by
      unfold wY_one_46 wY_one_47
      exact br_t rfl ⟨rfl, I⟩
    have h26 : (¬ v1 < 0) → (¬ 4 < v1) → (¬ (v1 = 2 ∧ (v2 < 0 ∨ 9 < v2))) → wY_one_26 (fun r' v' => r' = -1000000001 ∧ i_Rel (k + 3) (xst, xow, xin, xpa, xfi, xfr, xno, xsi, xan, xkn, xen, xco, xrm, xac, K, N, Z, D, Im, W, P, vS, pO, pX, pI, fS, fP, fI, fU, fR, fO, fA, fH, fG, fN, aS, qL, qR, qP) v') v1 v2 yma ypo yhe yvm yin yfi yde yap yas yto yan yco yti yna yac yen yic o l kS d pl ys yk yn yp yf yo yi yw ya y1 y2 yK yW yL yq nm nv no yA lf rt iK iN := by
      intro n0 n4 n2
      unfold wY_one_26
      refine br_c (fun e4 => ym_isIn (fun _ => br_t rfl hz) (fun m0 m7 => ?_)) (fun ne => ?_)
      · exact absurd hb (fun w => w.elim n0 (fun w => w.elim n4 (fun w => w.elim n2 (fun w => w.2.elim m0 m7))))
      · exact absurd hb (fun w => w.elim n0 (fun w => w.elim n4 (fun w => w.elim n2 (fun w => ne w.1))))
    unfold wpY_one
    dsimp only
    exact ym_isIn (fun _ => br_t rfl hz) (fun n0 n4 => br_f (by decide) (br_c (fun e2 => ym_isIn (fun _ => br_t rfl hz) (fun m0 m9 => br_f (by decide) (h26 n0 n4 (fun w => w.2.elim m0 m9)))) (fun ne => h26 n0 n4 (fun w => ne w.1))))
  unfold wpX_one
  dsimp only
  refine br_c (fun z => bad _ (Or.inl z) rfl) (fun n0 => br_c (fun n1 => ?_) (fun z => bad _ (Or.inr (Or.inl (Int32.not_le.mp z))) rfl))
  obtain ⟨j, hj, rfl⟩ := nI_of2 (n := 4) (by decide) n0 n1
  have go : (j = 2 → ∃ m, m < 10 ∧ v2 = nI m) → (j = 4 → ∃ m, m < 8 ∧ v2 = nI m) → wX_one_55 (fun r u' => wpY_one (fun r' v' => r' = r ∧ i_Rel (k + 3) u' v') (yma, ypo, yhe, yvm, yin, yfi, yde, yap, yas, yto, yan, yco, yti, yna, yac, yen, yic, o, l, kS, d, pl, ys, yk, yn, yp, yf, yo, yi, yw, ya, y1, y2, yK, yW, yL, yq, nm, nv, no, yA, lf, rt, iK, iN) (nI j) v2) v2 (nI (16 + j)) xst xow xin xpa xfi xfr xno xsi xan xkn xen xco xrm xac K N Z D Im W P vS pO pX pI fS fP fI fU fR fO fA fH fG fN aS qL qR qP := by
    intro hm hm4
    obtain ⟨r, u', v', hI, hX, hY⟩ := pu_ans (x := v2) I (show 16 + j ≤ 35 by omega) (fl_k1 (by omega)).2 (fun z => absurd z (by decide)) ⟨fun z => absurd z (by omega), fun z => absurd z (by omega), fun z => absurd z (by omega), fun z => hm (by omega), fun z => hm4 (by omega), fun z => absurd z (by omega), fun z => absurd z (by omega)⟩
    rw [(fl_k1 (by omega)).1] at hY
    obtain ⟨xst', xow', xin', xpa', xfi', xfr', xno', xsi', xan', xkn', xen', xco', xrm', xac', K', N', Z', D', Im', W', P', vS', pO', pX', pI', fS', fP', fI', fU', fR', fO', fA', fH', fG', fN', aS', qL', qR', qP'⟩ := u'
    obtain ⟨yma', ypo', yhe', yvm', yin', yfi', yde', yap', yas', yto', yan', yco', yti', yna', yac', yen', yic', o', l', kS', d', pl', ys', yk', yn', yp', yf', yo', yi', yw', ya', y1', y2', yK', yW', yL', yq', nm', nv', no', yA', lf', rt', iK', iN'⟩ := v'
    unfold wX_one_55
    refine hX _ ?_
    dsimp only
    have hz : wY_one_42 (fun r' v' => r' = r ∧ i_Rel (k + 3) (xst', xow', xin', xpa', xfi', xfr', xno', xsi', xan', xkn', xen', xco', xrm', xac', K', N', Z', D', Im', W', P', vS', pO', pX', pI', fS', fP', fI', fU', fR', fO', fA', fH', fG', fN', aS', qL', qR', qP') v') (nI j) v2 yma ypo yhe yvm yin yfi yde yap yas yto yan yco yti yna yac yen yic o l kS d pl ys yk yn yp yf yo yi yw ya y1 y2 yK yW yL yq nm nv no yA lf rt iK iN := by
      unfold wY_one_42 wY_one_47
      refine br_f (by decide) ?_
      rw [show (20 : Int32) + nI j = nI (20 + j) from nI_add 20 j]
      exact hY _ ⟨rfl, hI⟩
    have h26 : wY_one_26 (fun r' v' => r' = r ∧ i_Rel (k + 3) (xst', xow', xin', xpa', xfi', xfr', xno', xsi', xan', xkn', xen', xco', xrm', xac', K', N', Z', D', Im', W', P', vS', pO', pX', pI', fS', fP', fI', fU', fR', fO', fA', fH', fG', fN', aS', qL', qR', qP') v') (nI j) v2 yma ypo yhe yvm yin yfi yde yap yas yto yan yco yti yna yac yen yic o l kS d pl ys yk yn yp yf yo yi yw ya y1 y2 yK yW yL yq nm nv no yA lf rt iK iN := by
      unfold wY_one_26
      refine br_c (fun e4 => ym_isIn (fun w => absurd w ?_) (fun _ _ => br_f (by decide) hz)) (fun _ => hz)
      obtain ⟨m, m1, rfl⟩ := hm4 ((nI_eq (b := 4) (by omega) (by omega)).mp e4)
      exact fun w => w.elim (nI_pos (by omega)) (nI_nlt (a := 7) (by omega) (by omega))
    unfold wpY_one
    dsimp only
    refine ym_isIn (fun w => absurd w ?_) (fun _ _ => br_f (by decide) (br_c (fun e1 => ym_isIn (fun w => absurd w ?_) (fun _ _ => br_f (by decide) h26)) (fun _ => h26)))
    · exact fun w => w.elim n0 (fun w => Int32.not_lt.mpr n1 w)
    · obtain ⟨m, m1, rfl⟩ := hm ((nI_eq (b := 2) (by omega) (by omega)).mp e1)
      exact fun w => w.elim (nI_pos (by omega)) (nI_nlt (a := 9) (by omega) (by omega))
  rw [show (16 : Int32) + nI j = nI (16 + j) from nI_add 16 j]
  have g36 : (j = 2 → ∃ m, m < 10 ∧ v2 = nI m) → wX_one_36 (fun r u' => wpY_one (fun r' v' => r' = r ∧ i_Rel (k + 3) u' v') (yma, ypo, yhe, yvm, yin, yfi, yde, yap, yas, yto, yan, yco, yti, yna, yac, yen, yic, o, l, kS, d, pl, ys, yk, yn, yp, yf, yo, yi, yw, ya, y1, y2, yK, yW, yL, yq, nm, nv, no, yA, lf, rt, iK, iN) (nI j) v2) v2 (nI (16 + j)) xst xow xin xpa xfi xfr xno xsi xan xkn xen xco xrm xac K N Z D Im W P vS pO pX pI fS fP fI fU fR fO fA fH fG fN aS qL qR qP := by
    intro hm
    unfold wX_one_36
    refine br_c (fun e => ?_) (fun ne => go hm (fun e => absurd (by rw [e]; rfl) ne))
    have e1 : j = 4 := by
      have := (nI_eq (b := 20) (by omega) (by omega)).mp e
      omega
    subst e1
    refine br_c (fun z => bad _ (Or.inr (Or.inr (Or.inr ⟨rfl, Or.inl z⟩))) rfl) (fun m0 => br_c (fun m3 => go hm (fun _ => pu_rng rfl (by decide) m0 m3)) (fun z => bad _ (Or.inr (Or.inr (Or.inr ⟨rfl, Or.inr ?_⟩))) rfl))
    exact Classical.not_not.mp (fun w => z ((pu_lt (by decide)).mpr w))
  refine nm_e (br_c (fun e => ?_) (fun ne => g36 (fun e => absurd (by rw [e]; rfl) ne)))
  have e1 : j = 2 := by
    have := (nI_eq (b := 18) (by omega) (by omega)).mp e
    omega
  subst e1
  refine br_c (fun z => bad _ (Or.inr (Or.inr (Or.inl ⟨rfl, Or.inl z⟩))) rfl) (fun m0 => br_c (fun m3 => g36 (fun _ => pu_rng rfl (by decide) m0 m3)) (fun z => bad _ (Or.inr (Or.inr (Or.inl ⟨rfl, Or.inr ?_⟩))) rfl))
  exact Classical.not_not.mp (fun w => z ((pu_lt (by decide)).mpr w))
end
section
theorem i_vc_leaf {k : Nat} {u : SX} {v : SY} (I : i_Rel k u v) (hk : k + 3 ≤ 1536) (v1 : Int32) (v2 : Int32) : wpX_leaf (fun r u' => wpY_leaf (fun r' v' => r' = r ∧ i_Rel (k + 3) u' v') v v1 v2) u v1 v2 := by
  obtain ⟨xst, xow, xin, xpa, xfi, xfr, xno, xsi, xan, xkn, xen, xco, xrm, xac, K, N, Z, D, Im, W, P, vS, pO, pX, pI, fS, fP, fI, fU, fR, fO, fA, fH, fG, fN, aS, qL, qR, qP⟩ := u
  obtain ⟨yma, ypo, yhe, yvm, yin, yfi, yde, yap, yas, yto, yan, yco, yti, yna, yac, yen, yic, o, l, kS, d, pl, ys, yk, yn, yp, yf, yo, yi, yw, ya, y1, y2, yK, yW, yL, yq, nm, nv, no, yA, lf, rt, iK, iN⟩ := v
  have bad : ∀ r : Int32, (v1 < 0 ∨ 15 < v1 ∨ (v1 = 5 ∧ (v2 < 0 ∨ 7 < v2)) ∨ (v1 = 6 ∧ (v2 < -10 ∨ 9 < v2)) ∨ (v1 = 13 ∧ (v2 < 0 ∨ 2 < v2))) → r = -1000000001 → wpY_leaf (fun r' v' => r' = r ∧ i_Rel (k + 3) (xst, xow, xin, xpa, xfi, xfr, xno, xsi, xan, xkn, xen, xco, xrm, xac, K, N, Z, D, Im, W, P, vS, pO, pX, pI, fS, fP, fI, fU, fR, fO, fA, fH, fG, fN, aS, qL, qR, qP) v') (yma, ypo, yhe, yvm, yin, yfi, yde, yap, yas, yto, yan, yco, yti, yna, yac, yen, yic, o, l, kS, d, pl, ys, yk, yn, yp, yf, yo, yi, yw, ya, y1, y2, yK, yW, yL, yq, nm, nv, no, yA, lf, rt, iK, iN) v1 v2 := by
    intro r hb hr
    subst hr
    have hz : wY_leaf_65 (fun r' v' => r' = -1000000001 ∧ i_Rel (k + 3) (xst, xow, xin, xpa, xfi, xfr, xno, xsi, xan, xkn, xen, xco, xrm, xac, K, N, Z, D, Im, W, P, vS, pO, pX, pI, fS, fP, fI, fU, fR, fO, fA, fH, fG, fN, aS, qL, qR, qP) v') v1 v2 yma ypo yhe yvm yin yfi yde yap yas yto yan yco yti yna yac yen yic o l kS d pl ys yk yn yp yf yo yi yw ya y1 y2 yK yW yL yq nm nv no yA lf rt iK iN := by
      unfold wY_leaf_65 wY_leaf_66
      exact br_t rfl ⟨rfl, I⟩
    have h45 : (¬ v1 < 0) → (¬ 15 < v1) → (¬ (v1 = 5 ∧ (v2 < 0 ∨ 7 < v2))) → (¬ (v1 = 6 ∧ (v2 < -10 ∨ 9 < v2))) → wY_leaf_45 (fun r' v' => r' = -1000000001 ∧ i_Rel (k + 3) (xst, xow, xin, xpa, xfi, xfr, xno, xsi, xan, xkn, xen, xco, xrm, xac, K, N, Z, D, Im, W, P, vS, pO, pX, pI, fS, fP, fI, fU, fR, fO, fA, fH, fG, fN, aS, qL, qR, qP) v') v1 v2 yma ypo yhe yvm yin yfi yde yap yas yto yan yco yti yna yac yen yic o l kS d pl ys yk yn yp yf yo yi yw ya y1 y2 yK yW yL yq nm nv no yA lf rt iK iN := by
      intro n0 n15 n5 n6
      unfold wY_leaf_45
      refine br_c (fun e => ym_isIn (fun _ => br_t rfl hz) (fun m0 m2 => ?_)) (fun ne => ?_)
      · exact absurd hb (fun w => w.elim n0 (fun w => w.elim n15 (fun w => w.elim n5 (fun w => w.elim n6 (fun w => w.2.elim m0 m2)))))
      · exact absurd hb (fun w => w.elim n0 (fun w => w.elim n15 (fun w => w.elim n5 (fun w => w.elim n6 (fun w => ne w.1)))))
    have h27 : (¬ v1 < 0) → (¬ 15 < v1) → (¬ (v1 = 5 ∧ (v2 < 0 ∨ 7 < v2))) → wY_leaf_27 (fun r' v' => r' = -1000000001 ∧ i_Rel (k + 3) (xst, xow, xin, xpa, xfi, xfr, xno, xsi, xan, xkn, xen, xco, xrm, xac, K, N, Z, D, Im, W, P, vS, pO, pX, pI, fS, fP, fI, fU, fR, fO, fA, fH, fG, fN, aS, qL, qR, qP) v') v1 v2 yma ypo yhe yvm yin yfi yde yap yas yto yan yco yti yna yac yen yic o l kS d pl ys yk yn yp yf yo yi yw ya y1 y2 yK yW yL yq nm nv no yA lf rt iK iN := by
      intro n0 n15 n5
      unfold wY_leaf_27
      exact br_c (fun e => ym_isIn (fun _ => br_t rfl hz) (fun m0 m9 => br_f (by decide) (h45 n0 n15 n5 (fun w => w.2.elim m0 m9)))) (fun ne => h45 n0 n15 n5 (fun w => ne w.1))
    unfold wpY_leaf
    dsimp only
    exact ym_isIn (fun _ => br_t rfl hz) (fun n0 n15 => br_f (by decide) (br_c (fun e2 => ym_isIn (fun _ => br_t rfl hz) (fun m0 m7 => br_f (by decide) (h27 n0 n15 (fun w => w.2.elim m0 m7)))) (fun ne => h27 n0 n15 (fun w => ne w.1))))
  unfold wpX_leaf
  dsimp only
  refine br_c (fun z => bad _ (Or.inl z) rfl) (fun n0 => br_c (fun n1 => ?_) (fun z => bad _ (Or.inr (Or.inl (Int32.not_le.mp z))) rfl))
  obtain ⟨j, hj, rfl⟩ := nI_of2 (n := 15) (by decide) n0 n1
  have go : (j = 5 → ∃ m, m < 8 ∧ v2 = nI m) → (j = 6 → ¬ v2 < -10 ∧ v2 < 10) → (j = 13 → ∃ m, m < 3 ∧ v2 = nI m) → wX_leaf_70 (fun r u' => wpY_leaf (fun r' v' => r' = r ∧ i_Rel (k + 3) u' v') (yma, ypo, yhe, yvm, yin, yfi, yde, yap, yas, yto, yan, yco, yti, yna, yac, yen, yic, o, l, kS, d, pl, ys, yk, yn, yp, yf, yo, yi, yw, ya, y1, y2, yK, yW, yL, yq, nm, nv, no, yA, lf, rt, iK, iN) (nI j) v2) (nI j) v2 xst xow xin xpa xfi xfr xno xsi xan xkn xen xco xrm xac K N Z D Im W P vS pO pX pI fS fP fI fU fR fO fA fH fG fN aS qL qR qP := by
    intro hm5 hm6 hm13
    -- Y's walk, once the arguments are found good
    have ywk : ∀ (r : Int32) (u' : SX), wY_leaf_61 (fun r' v' => r' = r ∧ i_Rel (k + 3) u' v') (nI j) v2 yma ypo yhe yvm yin yfi yde yap yas yto yan yco yti yna yac yen yic o l kS d pl ys yk yn yp yf yo yi yw ya y1 y2 yK yW yL yq nm nv no yA lf rt iK iN → wpY_leaf (fun r' v' => r' = r ∧ i_Rel (k + 3) u' v') (yma, ypo, yhe, yvm, yin, yfi, yde, yap, yas, yto, yan, yco, yti, yna, yac, yen, yic, o, l, kS, d, pl, ys, yk, yn, yp, yf, yo, yi, yw, ya, y1, y2, yK, yW, yL, yq, nm, nv, no, yA, lf, rt, iK, iN) (nI j) v2 := by
      intro r u' hz
      have h45 : wY_leaf_45 (fun r' v' => r' = r ∧ i_Rel (k + 3) u' v') (nI j) v2 yma ypo yhe yvm yin yfi yde yap yas yto yan yco yti yna yac yen yic o l kS d pl ys yk yn yp yf yo yi yw ya y1 y2 yK yW yL yq nm nv no yA lf rt iK iN := by
        unfold wY_leaf_45
        refine br_c (fun e => ym_isIn (fun w => absurd w ?_) (fun _ _ => br_f (by decide) hz)) (fun _ => hz)
        obtain ⟨m, m1, rfl⟩ := hm13 ((nI_eq (b := 13) (by omega) (by omega)).mp e)
        exact fun w => w.elim (nI_pos (by omega)) (nI_nlt (a := 2) (by omega) (by omega))
      have h27 : wY_leaf_27 (fun r' v' => r' = r ∧ i_Rel (k + 3) u' v') (nI j) v2 yma ypo yhe yvm yin yfi yde yap yas yto yan yco yti yna yac yen yic o l kS d pl ys yk yn yp yf yo yi yw ya y1 y2 yK yW yL yq nm nv no yA lf rt iK iN := by
        unfold wY_leaf_27
        refine br_c (fun e => ym_isIn (fun w => absurd w ?_) (fun _ _ => br_f (by decide) h45)) (fun _ => h45)
        obtain ⟨m1, m2⟩ := hm6 ((nI_eq (b := 6) (by omega) (by omega)).mp e)
        exact fun w => w.elim m1 ((pu_lt (by decide)).mp m2)
      unfold wpY_leaf
      dsimp only
      refine ym_isIn (fun w => absurd w ?_) (fun _ _ => br_f (by decide) (br_c (fun e1 => ym_isIn (fun w => absurd w ?_) (fun _ _ => br_f (by decide) h27)) (fun _ => h27)))
      · exact fun w => w.elim n0 (fun w => Int32.not_lt.mpr n1 w)
      · obtain ⟨m, m1, rfl⟩ := hm5 ((nI_eq (b := 5) (by omega) (by omega)).mp e1)
        exact fun w => w.elim (nI_pos (by omega)) (nI_nlt (a := 7) (by omega) (by omega))
    unfold wX_leaf_70
    have I0 := I
    obtain ⟨V, h, m, mk, pd, np, nf, hh, ⟨f1, f2, f3, f4, f5, f6, f7⟩, hkn⟩ := I
    refine br_c (fun h8 => ?_) (fun h8 => ?_)
    · have n8 : nf ≠ 8 := by
        intro e
        rw [f4, e] at h8
        exact absurd h8 (by decide)
      have h6 : j = 6 → -10 ≤ v2.toInt ∧ v2.toInt ≤ 9 := by
        intro z
        obtain ⟨m1, m2⟩ := hm6 z
        rw [Int32.lt_iff_toInt_lt] at m1 m2
        have e1 : (-10 : Int32).toInt = -10 := by decide
        have e2 : (10 : Int32).toInt = 10 := by decide
        clear hh hkn I0
        omega
      obtain ⟨r, u', v', hI, hX, hY⟩ := pu_ans (x := v2) I0 (show j ≤ 35 by omega) (fl_k0 (by omega)).2 (fun _ e => n8 ((nI_eq (by omega) (by omega)).mp (f4.symm.trans e))) ⟨fun z => hm5 z, h6, fun z => hm13 z, fun z => absurd z (by omega), fun z => absurd z (by omega), fun z => absurd z (by omega), fun z => absurd z (by omega)⟩
      rw [(fl_k0 (by omega)).1] at hY
      obtain ⟨xst', xow', xin', xpa', xfi', xfr', xno', xsi', xan', xkn', xen', xco', xrm', xac', K', N', Z', D', Im', W', P', vS', pO', pX', pI', fS', fP', fI', fU', fR', fO', fA', fH', fG', fN', aS', qL', qR', qP'⟩ := u'
      obtain ⟨yma', ypo', yhe', yvm', yin', yfi', yde', yap', yas', yto', yan', yco', yti', yna', yac', yen', yic', o', l', kS', d', pl', ys', yk', yn', yp', yf', yo', yi', yw', ya', y1', y2', yK', yW', yL', yq', nm', nv', no', yA', lf', rt', iK', iN'⟩ := v'
      refine hX _ ?_
      dsimp only
      refine ywk _ _ ?_
      unfold wY_leaf_61 wY_leaf_66
      exact br_f (by decide) (hY _ ⟨rfl, hI⟩)
    · have e8 : nf = 8 := by
        rcases Nat.lt_or_ge nf 8 with z | z
        · rw [f4] at h8
          exact absurd (nI_lt (b := 8) z (by decide)) h8
        · omega
      refine ywk _ _ ?_
      unfold wY_leaf_61 wY_leaf_66
      refine br_f (by decide) ?_
      unfold wpY_push
      dsimp only
      have e8' : yde = 8 := by rw [f5, e8]; rfl
      exact br_c (fun _ => ⟨rfl, i_up I0⟩) (fun _ => br_t rfl (br_t e8' ⟨rfl, i_up I0⟩))
  have g52 : (j = 5 → ∃ m, m < 8 ∧ v2 = nI m) → (j = 6 → ¬ v2 < -10 ∧ v2 < 10) → wX_leaf_52 (fun r u' => wpY_leaf (fun r' v' => r' = r ∧ i_Rel (k + 3) u' v') (yma, ypo, yhe, yvm, yin, yfi, yde, yap, yas, yto, yan, yco, yti, yna, yac, yen, yic, o, l, kS, d, pl, ys, yk, yn, yp, yf, yo, yi, yw, ya, y1, y2, yK, yW, yL, yq, nm, nv, no, yA, lf, rt, iK, iN) (nI j) v2) (nI j) v2 xst xow xin xpa xfi xfr xno xsi xan xkn xen xco xrm xac K N Z D Im W P vS pO pX pI fS fP fI fU fR fO fA fH fG fN aS qL qR qP := by
    intro hm5 hm6
    unfold wX_leaf_52
    refine br_c (fun e => ?_) (fun ne => go hm5 hm6 (fun e => absurd (by rw [e]; rfl) ne))
    refine br_c (fun z => bad _ (Or.inr (Or.inr (Or.inr (Or.inr ⟨e, Or.inl z⟩)))) rfl) (fun m0 => br_c (fun m3 => go hm5 hm6 (fun _ => pu_rng rfl (by decide) m0 m3)) (fun z => bad _ (Or.inr (Or.inr (Or.inr (Or.inr ⟨e, Or.inr ?_⟩)))) rfl))
    exact Classical.not_not.mp (fun w => z ((pu_lt (by decide)).mpr w))
  have g31 : (j = 5 → ∃ m, m < 8 ∧ v2 = nI m) → wX_leaf_31 (fun r u' => wpY_leaf (fun r' v' => r' = r ∧ i_Rel (k + 3) u' v') (yma, ypo, yhe, yvm, yin, yfi, yde, yap, yas, yto, yan, yco, yti, yna, yac, yen, yic, o, l, kS, d, pl, ys, yk, yn, yp, yf, yo, yi, yw, ya, y1, y2, yK, yW, yL, yq, nm, nv, no, yA, lf, rt, iK, iN) (nI j) v2) (nI j) v2 xst xow xin xpa xfi xfr xno xsi xan xkn xen xco xrm xac K N Z D Im W P vS pO pX pI fS fP fI fU fR fO fA fH fG fN aS qL qR qP := by
    intro hm5
    unfold wX_leaf_31
    refine br_c (fun e => ?_) (fun ne => g52 hm5 (fun e => absurd (by rw [e]; rfl) ne))
    refine br_c (fun z => bad _ (Or.inr (Or.inr (Or.inr (Or.inl ⟨e, Or.inl z⟩)))) rfl) (fun m0 => br_c (fun m3 => g52 hm5 (fun _ => ⟨m0, m3⟩)) (fun z => bad _ (Or.inr (Or.inr (Or.inr (Or.inl ⟨e, Or.inr ?_⟩)))) rfl))
    exact Classical.not_not.mp (fun w => z ((pu_lt (by decide)).mpr w))
  refine br_c (fun e => ?_) (fun ne => g31 (fun e => absurd (by rw [e]; rfl) ne))
  refine br_c (fun z => bad _ (Or.inr (Or.inr (Or.inl ⟨e, Or.inl z⟩))) rfl) (fun m0 => br_c (fun m3 => g31 (fun _ => pu_rng rfl (by decide) m0 m3)) (fun z => bad _ (Or.inr (Or.inr (Or.inl ⟨e, Or.inr ?_⟩))) rfl))
  exact Classical.not_not.mp (fun w => z ((pu_lt (by decide)).mpr w))
end
section
/-! ===== a new object ===== -/
def in_ok (t : Nat) (K N Z D Im W : Nat → Int32) : Prop := ∀ s, s < t → (s < 3 → K s = nI s ∧ N s = 0) ∧ (3 ≤ s → K s = nI 3 ∧ N s = nI (s - 3)) ∧ Z s = 0 ∧ D s = 0 ∧ Im s = 1 ∧ W s = 1
theorem in_st {t : Nat} {K N Z D Im W : Nat → Int32} {a b : Int32} (h : in_ok t K N Z D Im W) (h3 : t < 3 → a = nI t ∧ b = 0) (h4 : 3 ≤ t → a = nI 3 ∧ b = nI (t - 3)) : in_ok (t + 1) (upd K t a) (upd N t b) (upd Z t 0) (upd D t 0) (upd Im t 1) (upd W t 1) := by
  intro s hs
  by_cases e : s = t
  · subst e
    rw [pk_us, pk_us, pk_us, pk_us, pk_us, pk_us]
    exact ⟨h3, h4, rfl, rfl, rfl, rfl⟩
  · rw [pk_un e, pk_un e, pk_un e, pk_un e, pk_un e, pk_un e]
    exact h s (by omega)
theorem in_239 {post : SX → Prop} (hp : ∀ K N Z D Im W : Nat → Int32, in_ok 13 K N Z D Im W → post (0, 0, 0, 0, 0, 0, 0, 0, 0, 0, 0, 0, 0, 0, K, N, Z, D, Im, W, (fun _ => 0), (fun _ => 0), (fun _ => 0), (fun _ => 0), (fun _ => 0), (fun _ => 0), (fun _ => 0), (fun _ => 0), (fun _ => 0), (fun _ => 0), (fun _ => 0), (fun _ => 0), (fun _ => 0), (fun _ => 0), (fun _ => 0), (fun _ => 0), (fun _ => 0), (fun _ => 0), (fun _ => 0))) : ∀ r i (K N Z D Im W : Nat → Int32), i + r = 10 → in_ok (3 + i) K N Z D Im W → wX_init_239 post (r + 1) (nI i) 0 0 0 0 0 0 0 0 0 0 0 0 0 0 K N Z D Im W (fun _ => 0) (fun _ => 0) (fun _ => 0) (fun _ => 0) (fun _ => 0) (fun _ => 0) (fun _ => 0) (fun _ => 0) (fun _ => 0) (fun _ => 0) (fun _ => 0) (fun _ => 0) (fun _ => 0) (fun _ => 0) (fun _ => 0) (fun _ => 0) (fun _ => 0) (fun _ => 0) (fun _ => 0) := by
  intro r
  induction r with
  | zero =>
    intro i K N Z D Im W hi h
    have hi' : i = 10 := by omega
    subst hi'
    unfold wX_init_239
    exact br_t (nI_le (a := 10) (Nat.le_refl _) (by omega)) (hp K N Z D Im W h)
  | succ r ih =>
    intro i K N Z D Im W hi h
    unfold wX_init_239
    refine br_f (nI_ge (b := 10) (by omega) (by omega)) ?_
    rw [show (3 : Int32) + nI i = nI (3 + i) from nI_add 3 i]
    refine xm_setPlain (by omega) (nm_r (nI_1 i) ?_)
    have hs := in_st (t := 3 + i) (a := 3) (b := nI i) h (fun z => absurd z (by omega)) (fun _ => ⟨rfl, by rw [show 3 + i - 3 = i by omega]⟩)
    exact ih (i + 1) _ _ _ _ _ _ (by omega) hs
theorem in_219 {post : SX → Prop} (hp : ∀ K N Z D Im W : Nat → Int32, in_ok 13 K N Z D Im W → post (0, 0, 0, 0, 0, 0, 0, 0, 0, 0, 0, 0, 0, 0, K, N, Z, D, Im, W, (fun _ => 0), (fun _ => 0), (fun _ => 0), (fun _ => 0), (fun _ => 0), (fun _ => 0), (fun _ => 0), (fun _ => 0), (fun _ => 0), (fun _ => 0), (fun _ => 0), (fun _ => 0), (fun _ => 0), (fun _ => 0), (fun _ => 0), (fun _ => 0), (fun _ => 0), (fun _ => 0), (fun _ => 0))) : ∀ r i (K N Z D Im W : Nat → Int32), i + r = 3 → in_ok i K N Z D Im W → wX_init_219 post (r + 1) (nI i) 0 0 0 0 0 0 0 0 0 0 0 0 0 0 K N Z D Im W (fun _ => 0) (fun _ => 0) (fun _ => 0) (fun _ => 0) (fun _ => 0) (fun _ => 0) (fun _ => 0) (fun _ => 0) (fun _ => 0) (fun _ => 0) (fun _ => 0) (fun _ => 0) (fun _ => 0) (fun _ => 0) (fun _ => 0) (fun _ => 0) (fun _ => 0) (fun _ => 0) (fun _ => 0) := by
  intro r
  induction r with
  | zero =>
    intro i K N Z D Im W hi h
    have hi' : i = 3 := by omega
    subst hi'
    unfold wX_init_219
    exact br_t (nI_lt (a := 2) (by omega) (by omega)) ⟨_, in_239 hp 10 0 K N Z D Im W rfl h⟩
  | succ r ih =>
    intro i K N Z D Im W hi h
    unfold wX_init_219
    refine br_f (nI_nlt (a := 2) (by omega) (by omega)) ?_
    refine xm_setPlain (by omega) (nm_r (nI_1 i) ?_)
    exact ih (i + 1) _ _ _ _ _ _ (by omega) (in_st h (fun _ => ⟨rfl, rfl⟩) (fun z => absurd z (by omega)))
theorem i_vc0 : wpX_init (fun u => wpY_init (fun v => i_Rel 0 u v)) := by
  unfold wpX_init
  refine ⟨_, in_219 (fun K N Z D Im W h => ?_) 3 0 _ _ _ _ _ _ rfl (fun s hs => absurd hs (by omega))⟩
  have hox : vv_ox (fun s => s < 13) K N Z D Im W (fun _ => 0) := by
    intro s hs
    obtain ⟨a, b, c, d, e, f⟩ := h s hs
    refine ⟨by omega, Or.inl ?_⟩
    rcases Nat.lt_or_ge s 3 with z | z
    · exact ⟨s, by omega, (a z).1, fun _ => (a z).2, c, d, e, f⟩
    · exact ⟨3, by omega, (b z).1, fun w => absurd w (by omega), c, d, e, f⟩
  have hb : rl_b (fun s => s < 13) K N := by
    refine ⟨fun s hs => ⟨by show s < 13; omega, ((h s (by omega)).1 hs).1⟩, fun g hg => ⟨by show 3 + g < 13; omega, ?_⟩⟩
    have := (h (3 + g) (by omega)).2.1 (by omega)
    rw [show 3 + g - 3 = g by omega] at this
    exact this
  unfold wpY_init
  refine ⟨fun s => s < 13, 0, 0, 0, 0, 0, 0, ⟨rfl, rfl, by omega, rfl, rfl, by omega, rfl, rfl, by omega, by omega, hox, fun s hs => hs, hb, ⟨by omega, by omega, fun j hj => absurd hj (by omega)⟩, fun i hi => absurd hi (by omega), ?_⟩, ⟨rfl, rfl, by omega, rfl, rfl, by omega, rfl, rfl, rfl, fun q hq => absurd hq (by omega), fun i hi => absurd hi (by omega)⟩, Or.inl rfl⟩
  show vv_R _ _ _ _ _ _ _ _ _ _ _ _ 0 0
  rw [yy_0]
  exact rl_R0 hox hb (κ := 0) (by omega)
end
section
/-! ===== a new nested value ===== -/
def vv_ns (s κ z kk : Nat) (key : Int32) (ch : Nat → Int32) (e q w : Nat → Nat) (K N Z D Im W P K' N' Z' D' Im' W' P' : Nat → Int32) : Prop :=
  (∀ t, t ≠ s → K' t = K t ∧ N' t = N t ∧ Z' t = Z t ∧ D' t = D t ∧ Im' t = Im t ∧ W' t = W t ∧ ∀ i, i < 10 → P' (t * 10 + i) = P (t * 10 + i)) ∧
  K' s = nI κ ∧ N' s = key ∧ Z' s = nI z ∧ D' s = nI (vv_mx e z + 1) ∧ Im' s = nI (2 + vv_sm (fun i => kk + q i) z) ∧ W' s = nI (1 + vv_sm w z) ∧ ∀ i, i < z → P' (s * 10 + i) = ch i
section
variable {V : Nat → Prop} {K N Z D Im W P K' N' Z' D' Im' W' P' : Nat → Int32} {s κ z kk : Nat} {key : Int32} {ch : Nat → Int32} {e q w : Nat → Nat}
theorem ns_eq (h : vv_ns s κ z kk key ch e q w K N Z D Im W P K' N' Z' D' Im' W' P') (hV : ∀ t, V t → t ≠ s) : vv_eq V K N Z D Im W P K' N' Z' D' Im' W' P' := fun t ht => h.1 t (hV t ht)
/-- what is asked of the values that come into a new one -/
def ns_ch (V : Nat → Prop) (D Im W : Nat → Int32) (s z : Nat) (ch : Nat → Int32) (c e q w : Nat → Nat) : Prop :=
  ∀ i, i < z → ch i = nI (c i) ∧ c i < 653 ∧ V (c i) ∧ (s < 53 → c i < 53) ∧ D (c i) = nI (e i) ∧ e i ≤ 4 ∧ Im (c i) = nI (q i) ∧ q i ≤ 23332 ∧ W (c i) = nI (w i) ∧ w i ≤ 23332
theorem ns_ex (hx : vv_ox V K N Z D Im W P) {s z : Nat} {ch : Nat → Int32} (h : ∀ i, i < z → ∃ c, ch i = nI c ∧ V c ∧ (s < 53 → c < 53)) : ∃ c e q w : Nat → Nat, ns_ch V D Im W s z ch c e q w := by
  have h' : ∀ i, ∃ c e q w : Nat, i < z → ch i = nI c ∧ c < 653 ∧ V c ∧ (s < 53 → c < 53) ∧ D c = nI e ∧ e ≤ 4 ∧ Im c = nI q ∧ q ≤ 23332 ∧ W c = nI w ∧ w ≤ 23332 := by
    intro i
    by_cases hi : i < z
    · obtain ⟨c, a, b, b'⟩ := h i hi
      obtain ⟨e, e4, ee⟩ := vv_D hx b
      obtain ⟨⟨q, q1, _, q3⟩, ⟨w, w1, _, w3⟩⟩ := vv_IW4 hx b
      exact ⟨c, e, q, w, fun _ => ⟨a, (hx c b).1, b, b', ee, e4, q1, q3, w1, w3⟩⟩
    · exact ⟨0, 0, 0, 0, fun z => absurd z hi⟩
  exact ⟨fun i => (h' i).choose, fun i => (h' i).choose_spec.choose, fun i => (h' i).choose_spec.choose_spec.choose, fun i => (h' i).choose_spec.choose_spec.choose_spec.choose, fun i hi => (h' i).choose_spec.choose_spec.choose_spec.choose_spec hi⟩
theorem ns_ox (hx : vv_ox V K N Z D Im W P) (h : vv_ns s κ z kk key ch e q w K N Z D Im W P K' N' Z' D' Im' W' P') (hV : ∀ t, V t → t ≠ s) (hs : s < 653) {c : Nat → Nat} (hc : ns_ch V D Im W s z ch c e q w) (hz : z ≤ 10) (hm : vv_mx e z ≤ 3)
    (h4 : (κ = 4 ∧ kk = 0 ∧ key = 0) ∨ (κ = 5 ∧ kk = 1 ∧ ∃ m, m < 256 ∧ key = nI m ∧ z = vv_pc m 8)) : vv_ox (fun t => V t ∨ t = s) K' N' Z' D' Im' W' P' := by
  have heq := ns_eq h hV
  obtain ⟨_, a1, a2, a3, a4, a5, a6, a7⟩ := h
  refine vv_ox_add hx heq hs (Or.inr ⟨κ, z, vv_mx e z, by omega, a1, a3, hz, a4, by omega, fun i hi => ?_, fun k4 => ?_, fun k5 => ?_, ?_, ?_⟩)
  · obtain ⟨c1, c2, c3, c4, c5, c6, _⟩ := hc i hi
    exact ⟨c i, (a7 i hi).trans c1, c2, Or.inl c3, c4, e i, vv_mx_ge hi, (heq _ c3).2.2.2.1.trans c5⟩
  · rcases h4 with ⟨_, _, x⟩ | ⟨x, _⟩
    · rw [a2, x]
    · omega
  · rcases h4 with ⟨x, _⟩ | ⟨_, _, m, x1, x2, x3⟩
    · omega
    · exact ⟨m, x1, a2.trans x2, x3⟩
  · rw [a5]
    congr 2
    apply vv_sm_c
    intro i hi
    obtain ⟨c1, c2, c3, c4, c5, c6, c7, c8, _⟩ := hc i hi
    show kk + q i = κ - 4 + (Im' (P' (s * 10 + i)).toNatClampNeg).toNatClampNeg
    rw [a7 i hi, c1, nI_clamp (by omega), (heq _ c3).2.2.2.2.1, c7, nI_clamp (by omega)]
    omega
  · rw [a6]
    congr 2
    apply vv_sm_c
    intro i hi
    obtain ⟨c1, c2, c3, c4, c5, c6, c7, c8, c9, c10⟩ := hc i hi
    show w i = (W' (P' (s * 10 + i)).toNatClampNeg).toNatClampNeg
    rw [a7 i hi, c1, nI_clamp (by omega), (heq _ c3).2.2.2.2.2.1, c9, nI_clamp (by omega)]
end
/-- X has set the slot's kind, keys and places; what measure makes of it -/
theorem xm_ns {xst xow xin xpa xfi xfr xno xsi xan xkn xen xco xrm xac : Int32} {K N Z D Im W P vS pO pX pI fS fP fI fU fR fO fA fH fG fN aS qL qR qP : Nat → Int32} {post : SX → Prop} {s κ z kk : Nat} {key : Int32} {ch : Nat → Int32} {c e q w : Nat → Nat} {K0 N0 Z0 P0 : Nat → Int32} {V : Nat → Prop} (hs : s < 653) (hz : z ≤ 10) (hk : (κ = 4 ∧ kk = 0) ∨ (κ = 5 ∧ kk = 1)) (hc : ns_ch V D Im W s z ch c e q w) (hne : ∀ t, V t → t ≠ s)
    (ho : ∀ t, t ≠ s → K t = K0 t ∧ N t = N0 t ∧ Z t = Z0 t ∧ ∀ i, i < 10 → P (t * 10 + i) = P0 (t * 10 + i)) (eK : K s = nI κ) (eN : N s = key) (eZ : Z s = nI z) (eP : ∀ i, i < z → P (s * 10 + i) = ch i)
    (hp : ∀ D' Im' W' : Nat → Int32, vv_ns s κ z kk key ch e q w K0 N0 Z0 D Im W P0 K N Z D' Im' W' P → post (xst, xow, xin, xpa, xfi, xfr, xno, xsi, xan, xkn, xen, xco, xrm, xac, K, N, Z, D', Im', W', P, vS, pO, pX, pI, fS, fP, fI, fU, fR, fO, fA, fH, fG, fN, aS, qL, qR, qP)) : wpX_measure post (xst, xow, xin, xpa, xfi, xfr, xno, xsi, xan, xkn, xen, xco, xrm, xac, K, N, Z, D, Im, W, P, vS, pO, pX, pI, fS, fP, fI, fU, fR, fO, fA, fH, fG, fN, aS, qL, qR, qP) (nI s) := by
  refine xm_measure (kk := kk) (c := c) (e := e) (q := q) (w := w) hs hz ?_ eZ (fun i hi => ?_) (hp _ _ _ ⟨fun t ht => ?_, eK, eN, eZ, pk_us, pk_us, pk_us, eP⟩)
  · rcases hk with ⟨a, b⟩ | ⟨a, b⟩
    · exact Or.inr ⟨fun z => absurd ((nI_eq (b := 5) (by omega) (by omega)).mp (eK.symm.trans z)) (by omega), b⟩
    · exact Or.inl ⟨by rw [eK, a]; rfl, b⟩
  · obtain ⟨c1, c2, c3, c4, c5, c6, c7, c8, c9, c10⟩ := hc i hi
    exact ⟨(eP i hi).trans c1, c2, c5, c6, c7, c8, c9, c10⟩
  · obtain ⟨x1, x2, x3, x4⟩ := ho t ht
    exact ⟨x1, x2, x3, pk_un ht, pk_un ht, pk_un ht, x4⟩
end
section
/-! ===== array and object ===== -/
theorem xm_stackNested {xst xow xin xpa xfi xfr xno xsi xan xkn xen xco xrm xac : Int32} {K N Z D Im W P vS pO pX pI fS fP fI fU fR fO fA fH fG fN aS qL qR qP : Nat → Int32} {post : Int32 → SX → Prop} {h m κ z kk : Nat} {key : Int32} {c e q w : Nat → Nat} {V : Nat → Prop} (eh : xst = nI h) (em : xow = nI m) (hm : m < 40) (hzh : z ≤ h) (hh : h ≤ 12) (hl : h - z < 12) (hz : z ≤ 10)
    (hk : (κ = 4 ∧ kk = 0) ∨ (κ = 5 ∧ kk = 1)) (hc : ns_ch V D Im W (13 + m) z (fun i => vS (h - z + i)) c e q w) (hne : ∀ t, V t → t ≠ 13 + m)
    (hp : ∀ K' N' Z' D' Im' W' P' : Nat → Int32, vv_ns (13 + m) κ z kk key (fun i => vS (h - z + i)) e q w K N Z D Im W P K' N' Z' D' Im' W' P' →
      (vv_mx e z ≤ 3 → post (nI (h - z + 1)) ((nI (h - z + 1)), (nI (m + 1)), xin, xpa, xfi, xfr, xno, xsi, xan, xkn, xen, xco, xrm, xac, K', N', Z', D', Im', W', P', (upd vS (h - z) (nI (13 + m))), pO, pX, pI, fS, fP, fI, fU, fR, fO, fA, fH, fG, fN, aS, qL, qR, qP)) ∧
      (4 ≤ vv_mx e z → post (-1000000002) (xst, xow, xin, xpa, xfi, xfr, xno, xsi, xan, xkn, xen, xco, xrm, xac, K', N', Z', D', Im', W', P', vS, pO, pX, pI, fS, fP, fI, fU, fR, fO, fA, fH, fG, fN, aS, qL, qR, qP))) : wpX_stackNested post (xst, xow, xin, xpa, xfi, xfr, xno, xsi, xan, xkn, xen, xco, xrm, xac, K, N, Z, D, Im, W, P, vS, pO, pX, pI, fS, fP, fI, fU, fR, fO, fA, fH, fG, fN, aS, qL, qR, qP) (nI κ) key (nI z) := by
  subst eh em
  have es : (nI (13 + m)).toNatClampNeg = 13 + m := nI_clamp (by omega)
  have hmx : vv_mx e z ≤ 4 := vv_mx_le (fun i hi => (hc i hi).2.2.2.2.2.1)
  have key61 : ∀ r i (Z' P' : Nat → Int32), i + r = z → (∀ t, t ≠ 13 + m → Z' t = Z t ∧ ∀ j, j < 10 → P' (t * 10 + j) = P (t * 10 + j)) → Z' (13 + m) = nI i → (∀ j, j < i → P' ((13 + m) * 10 + j) = vS (h - z + j)) →
      wX_stackNested_61 post (nI z) (nI (h - z)) (nI (13 + m)) (r + 1) (nI i) (nI h) (nI m) xin xpa xfi xfr xno xsi xan xkn xen xco xrm xac (upd K (13 + m) (nI κ)) (upd N (13 + m) key) Z' D Im W P' vS pO pX pI fS fP fI fU fR fO fA fH fG fN aS qL qR qP := by
    intro r
    induction r with
    | zero =>
      intro i Z' P' hi ho eZ eP
      have hi' : i = z := by omega
      subst hi'
      unfold wX_stackNested_61
      refine br_t (nI_le (Nat.le_refl _) (by omega)) ?_
      refine xm_ns (V := V) (c := c) (K0 := K) (N0 := N) (Z0 := Z) (P0 := P) (by omega) hz hk hc hne (fun t ht => ⟨pk_un ht, pk_un ht, (ho t ht).1, (ho t ht).2⟩) pk_us pk_us eZ eP (fun D' Im' W' hns => ?_)
      have hD := hns.2.2.2.2.1
      dsimp only
      rw [es, hD]
      refine ⟨vp_in_nI (by omega) (by omega), pk_le (vv_mx e i + 1) 4 (fun hle => ?_) (fun hgt => ?_)⟩
      · exact xm_pushOwn rfl rfl hl ((hp _ _ _ _ _ _ _ hns).1 (by omega))
      · exact (hp _ _ _ _ _ _ _ hns).2 (by omega)
    | succ r ih =>
      intro i Z' P' hi ho eZ eP
      unfold wX_stackNested_61
      rw [nI_add, nI_clamp (show h - z + i < 2 ^ 31 by omega)]
      refine br_f (nI_ge (by omega) (by omega)) ⟨vp_in_nI (by omega) (by omega), ?_⟩
      refine xm_addTo (z := i) (by omega) eZ (by omega) (nm_r (nI_1 i) ?_)
      refine ih (i + 1) _ _ (by omega) (fun t ht => ⟨(pk_un ht).trans (ho t ht).1, fun j hj => (pk_un (vv_pl ht hj (by omega))).trans ((ho t ht).2 j hj)⟩) pk_us (fun j hj => ?_)
      by_cases ej : j = i
      · subst ej; rw [pk_us]
      · rw [pk_un (by omega)]; exact eP j (by omega)
  unfold wpX_stackNested
  dsimp only
  rw [pk_sub hzh]
  refine br_t (nI_lt (b := 40) hm (by omega)) (br_t (nI_le hzh (by omega)) (nm_e (br_t (nI_lt (b := 12) hl (by omega)) (nm_r (xi_13 m) ?_))))
  refine xm_setNested (by omega) ?_
  exact ⟨_, key61 z 0 _ _ (by omega) (fun t ht => ⟨pk_un ht, fun _ _ => rfl⟩) pk_us (fun j hj => absurd hj (by omega))⟩
theorem ym_takeOff {yma ypo yhe yvm : Int32} {yin : Int64} {yfi yde yap yas yto : Int32} {yan : Int64} {yco yti yna yac yen yic : Int32} {o l kS d : Nat → Int32} {pl ys : Nat → Int64} {yk yn yp yf yo : Nat → Int32} {yi : Nat → Int64} {yw ya y1 y2 : Nat → Int32} {yK : Nat → Int64} {yW : Nat → Int32} {yL : Nat → Int64} {yq nm : Nat → Int32} {nv : Nat → Int64} {no : Nat → Int32} {yA lf rt : Nat → Int64} {iK iN : Nat → Int32} {post : Int32 → SY → Prop} {h m κ z mk pd : Nat} {key : Int32} {e : Nat → Nat} (eh : yhe = nI h) (em : yvm = nI m) (hm : m < 40) (hzh : z ≤ h) (hh : h ≤ 12) (hl : h - z < 12) (hz : z ≤ 10) (hκ : κ < 16)
    (ek : yma = nI mk) (ep : ypo = nI pd) (hmk : mk < 760) (hpd : pd + z ≤ 8200) (hc : ∀ i, i < z → yd_is d (ys (h - z + i)) (e i))
    (hp : (vv_mx e z ≤ 3 → ∀ pl' : Nat → Int64, (∀ j, j < pd → pl' j = pl j) → (∀ i, i < z → pl' (pd + i) = ys (h - z + i)) →
        post (nI (h - z + 1)) ((nI (mk + 1)), (nI (pd + z)), (nI (h - z + 1)), (nI (m + 1)), yin, yfi, yde, yap, yas, yto, yan, yco, yti, yna, yac, yen, yic, (upd o mk (nI pd)), (upd l mk (nI z)), (upd kS mk key), (upd d mk (nI (vv_mx e z + 1))), pl', (vp_updL ys (h - z) (yy_t κ (nI mk))), yk, yn, yp, yf, yo, yi, yw, ya, y1, y2, yK, yW, yL, yq, nm, nv, no, yA, lf, rt, iK, iN)) ∧
      (4 ≤ vv_mx e z → post (-1000000002) (yma, ypo, yhe, yvm, yin, yfi, yde, yap, yas, yto, yan, yco, yti, yna, yac, yen, yic, o, l, kS, d, pl, ys, yk, yn, yp, yf, yo, yi, yw, ya, y1, y2, yK, yW, yL, yq, nm, nv, no, yA, lf, rt, iK, iN))) : wpY_takeOff post (yma, ypo, yhe, yvm, yin, yfi, yde, yap, yas, yto, yan, yco, yti, yna, yac, yen, yic, o, l, kS, d, pl, ys, yk, yn, yp, yf, yo, yi, yw, ya, y1, y2, yK, yW, yL, yq, nm, nv, no, yA, lf, rt, iK, iN) (nI κ) (nI z) key := by
  subst eh em ek ep
  have k86 : vv_mx e z ≤ 3 → ∀ r i (pl' : Nat → Int64), i + r = z → (∀ j, j < pd → pl' j = pl j) → (∀ j, j < i → pl' (pd + j) = ys (h - z + j)) →
      wY_takeOff_86 post (nI κ) (nI z) key (nI pd) (nI mk) (nI h) (nI m) yin yfi yde yap yas yto yan yco yti yna yac yen yic (r + 1) (nI i) (nI (pd + i)) o l kS d pl' ys yk yn yp yf yo yi yw ya y1 y2 yK yW yL yq nm nv no yA lf rt iK iN := by
    intro hmx r
    induction r with
    | zero =>
      intro i pl' hi hlo hhi
      have hi' : i = z := by omega
      subst hi'
      unfold wY_takeOff_86
      rw [pk_sub hzh]
      refine br_t (nI_le (Nat.le_refl _) (by omega)) (nm_e ?_)
      refine ym_compose (mk := mk) (e := e) rfl hmk hκ hz hpd (fun j hj => ?_) ?_
      · rw [hhi j hj]; exact hc j hj
      · dsimp only
        rw [nI_clamp (show h - i < 2 ^ 31 by omega), nI_1, nI_1]
        exact ⟨vp_in_nI hl (by omega), nm_e (nm_e (nm_e (hp.1 hmx pl' hlo hhi)))⟩
    | succ r ih =>
      intro i pl' hi hlo hhi
      unfold wY_takeOff_86
      rw [pk_sub hzh, nI_add, nI_clamp (show h - z + i < 2 ^ 31 by omega), nI_clamp (show pd + i < 2 ^ 31 by omega), nI_1, nI_1]
      refine br_f (nI_ge (by omega) (by omega)) ⟨vp_in_nI (by omega) (by omega), vp_in_nI (by omega) (by omega), nm_e (nm_e (nm_e ?_))⟩
      refine ih (i + 1) _ (by omega) (fun j hj => (pk_uLn (by omega)).trans (hlo j hj)) (fun j hj => ?_)
      by_cases ej : j = i
      · subst ej; rw [pk_uLs]
      · rw [pk_uLn (by omega)]; exact hhi j (by omega)
  have k40 : ∀ r i, i + r = z → (∀ j, j < i → e j ≤ 3) → wY_takeOff_40 post (nI κ) (nI z) key (nI mk) (nI pd) (nI h) (nI m) yin yfi yde yap yas yto yan yco yti yna yac yen yic o l kS d pl ys yk yn yp yf yo yi yw ya y1 y2 yK yW yL yq nm nv no yA lf rt iK iN (r + 1) (nI i) := by
    intro r
    induction r with
    | zero =>
      intro i hi h3
      have hi' : i = z := by omega
      subst hi'
      unfold wY_takeOff_40
      exact br_t (nI_le (Nat.le_refl _) (by omega)) ⟨_, k86 (vv_mx_le h3) i 0 pl (by omega) (fun _ _ => rfl) (fun j hj => absurd hj (by omega))⟩
    | succ r ih =>
      intro i hi h3
      have h4 := (hc i (by omega)).1
      unfold wY_takeOff_40
      rw [pk_sub hzh, nI_add, nI_clamp (show h - z + i < 2 ^ 31 by omega)]
      refine br_f (nI_ge (by omega) (by omega)) ⟨vp_in_nI (by omega) (by omega), ym_depthOf (hc i (by omega)) ?_⟩
      refine pk_eq (e i) 4 (fun e4 => hp.2 ?_) (fun n4 => nm_r (nI_1 i) (ih (i + 1) (by omega) (fun j hj => ?_)))
      · have := vv_mx_ge (f := e) (show i < z by omega)
        omega
      · by_cases ej : j = i
        · subst ej; omega
        · exact h3 j (by omega)
  unfold wpY_takeOff
  dsimp only
  rw [pk_sub hzh]
  refine br_f (fun z => absurd ((nI_eq (b := 40) (by omega) (by omega)).mp z) (by omega)) (br_t (nI_le hzh (by omega)) (br_f (fun z => absurd ((nI_eq (b := 12) (by omega) (by omega)).mp z) (by omega)) ⟨_, k40 z 0 (by omega) (fun j hj => absurd hj (by omega))⟩))
end
section
section
variable {V V' : Nat → Prop} {K N Z D Im W P K' N' Z' D' Im' W' P' : Nat → Int32} {o l kS d o' l' kS' d' : Nat → Int32} {pl pl' : Nat → Int64} {mk pd pd' : Nat}
theorem cy_add (h : vv_cy mk pd o l pl) (hm : mk < 760) {a b : Nat} (hpd : pd ≤ pd') (hab : a + b ≤ pd') (hp8 : pd' ≤ 8200) (hb : b ≤ 10) (e : ∀ i, i < pd → pl' i = pl i) (hc : ∀ i, i < b → vv_vy mk (pl' (a + i))) : vv_cy (mk + 1) pd' (upd o mk (nI a)) (upd l mk (nI b)) pl' := by
  obtain ⟨h1, h2, h3⟩ := h
  refine ⟨by omega, hp8, fun j hj => ?_⟩
  by_cases ej : j = mk
  · subst ej
    exact ⟨a, b, pk_us, pk_us, hb, hab, fun i hi => vv_vy_up (Nat.le_succ _) (hc i hi)⟩
  · obtain ⟨a', b', c1, c2, c3, c4, c5⟩ := h3 j (by omega)
    exact ⟨a', b', (pk_un ej).trans c1, (pk_un ej).trans c2, c3, by omega, fun i hi => by rw [e _ (by omega)]; exact vv_vy_up (Nat.le_succ _) (c5 i hi)⟩
theorem cy_keep (hm : mk < 760) {x y z t : Int32} (e : ∀ i, i < pd → pl' i = pl i) : ∀ j, j < mk → upd o mk x j = o j ∧ upd l mk y j = l j ∧ upd kS mk z j = kS j ∧ upd d mk t j = d j ∧ ∀ a b, o j = nI a → l j = nI b → b ≤ 10 → a + b ≤ pd → ∀ i, i < b → pl' (a + i) = pl (a + i) :=
  fun j hj => ⟨pk_un (by omega), pk_un (by omega), pk_un (by omega), pk_un (by omega), fun a b _ _ _ hab i hi => e _ (by omega)⟩
theorem yd_of_R (hx : vv_ox V K N Z D Im W P) (hy : vv_cy mk pd o l pl) {s : Int32} {w : Int64} {c e : Nat} (h : vv_R V K N Z D P mk o l kS d pl s w) (hs : s = nI c) (hc : c < 653) (hD : D c = nI e) (h4 : e ≤ 4) : yd_is d w e := by
  obtain ⟨n, κ, x, a1, a2, a3, a4, a5, a6, a7⟩ := vv_R_is hx hy h
  have : n = c := (nI_eq (by omega) (by omega)).mp (a1.symm.trans hs)
  subst this
  refine ⟨h4, κ, x, a4, a5, ?_⟩
  rcases a7 with ⟨b1, _, _, b4⟩ | ⟨b1, j, a, b, b2, b3, _, _, _, _, _, _, b9, _⟩
  · refine Or.inl ⟨b1, ?_⟩
    rw [hD] at b4
    exact (nI_eq (b := 0) (by omega) (by omega)).mp b4
  · exact Or.inr ⟨b1, j, by have := hy.1; omega, b3, b9.symm.trans hD⟩
theorem rl_h_eq {h m : Nat} {xst xow xin : Int32} {vS : Nat → Int32} {yma ypo yhe yvm : Int32} {yin : Int64} {ys : Nat → Int64} (H : rl_h V h m mk pd xst xow xin K N Z D Im W P vS yma ypo yhe yvm yin o l kS d pl ys) (e : vv_eq V K N Z D Im W P K' N' Z' D' Im' W' P') : rl_h V h m mk pd xst xow xin K' N' Z' D' Im' W' P' vS yma ypo yhe yvm yin o l kS d pl ys := by
  obtain ⟨h1, h2, h3, h4, h5, h6, h7, h8, h9, h10, h11, h12, h13, h14, h15, h16⟩ := H
  exact ⟨h1, h2, h3, h4, h5, h6, h7, h8, h9, h10, vv_ox_eq h11 e, h12, rl_b_up h13 (fun _ z => z) (fun s hs => ⟨(e s hs).1, (e s hs).2.1⟩), h14, fun i hi => vv_R_ux h11 h14 e (fun _ z => z) (h15 i hi), vv_R_ux h11 h14 e (fun _ z => z) h16⟩
theorem rl_xin (hx : vv_ox V K N Z D Im W P) (e : vv_eq V K N Z D Im W P K' N' Z' D' Im' W' P') {xin : Int32} {yin : Int64} (h : vv_R V K N Z D P mk o l kS d pl xin yin) : ∀ p, vv_x K' N' Z' D' P' p xin.toNatClampNeg = vv_x K N Z D P p xin.toNatClampNeg := by
  intro p
  obtain ⟨n, e1, e2, e3, _⟩ := h
  rw [e1, nI_clamp (by omega)]
  exact vv_x_st hx (fun s hs => vv_eq_x e s hs) p n e3
end
theorem ns_both {k : Nat} {xst xow xin xpa xfi xfr xno xsi xan xkn xen xco xrm xac : Int32} {K N Z D Im W P vS pO pX pI fS fP fI fU fR fO fA fH fG fN aS qL qR qP : Nat → Int32} {yma ypo yhe yvm : Int32} {yin : Int64} {yfi yde yap yas yto : Int32} {yan : Int64} {yco yti yna yac yen yic : Int32} {o l kS d : Nat → Int32} {pl ys : Nat → Int64} {yk yn yp yf yo : Nat → Int32} {yi : Nat → Int64} {yw ya y1 y2 : Nat → Int32} {yK : Nat → Int64} {yW : Nat → Int32} {yL : Nat → Int64} {yq nm : Nat → Int32} {nv : Nat → Int64} {no : Nat → Int32} {yA lf rt : Nat → Int64} {iK iN : Nat → Int32} {κ z kk : Nat} {key : Int32} (I : i_Rel k (xst, xow, xin, xpa, xfi, xfr, xno, xsi, xan, xkn, xen, xco, xrm, xac, K, N, Z, D, Im, W, P, vS, pO, pX, pI, fS, fP, fI, fU, fR, fO, fA, fH, fG, fN, aS, qL, qR, qP) (yma, ypo, yhe, yvm, yin, yfi, yde, yap, yas, yto, yan, yco, yti, yna, yac, yen, yic, o, l, kS, d, pl, ys, yk, yn, yp, yf, yo, yi, yw, ya, y1, y2, yK, yW, yL, yq, nm, nv, no, yA, lf, rt, iK, iN)) (hz : z ≤ 10) (h45 : (κ = 4 ∧ kk = 0 ∧ key = 0) ∨ (κ = 5 ∧ kk = 1 ∧ ∃ mm, mm < 256 ∧ key = nI mm ∧ z = vv_pc mm 8))
    (PX : Int32 → SX → Prop) (H : ∀ r u', (∀ PY : Int32 → SY → Prop, (∀ v', i_Rel (k + 3) u' v' → PY r v') → wpY_takeOff PY (yma, ypo, yhe, yvm, yin, yfi, yde, yap, yas, yto, yan, yco, yti, yna, yac, yen, yic, o, l, kS, d, pl, ys, yk, yn, yp, yf, yo, yi, yw, ya, y1, y2, yK, yW, yL, yq, nm, nv, no, yA, lf, rt, iK, iN) (nI κ) (nI z) key) → PX r u') : wpX_stackNested PX (xst, xow, xin, xpa, xfi, xfr, xno, xsi, xan, xkn, xen, xco, xrm, xac, K, N, Z, D, Im, W, P, vS, pO, pX, pI, fS, fP, fI, fU, fR, fO, fA, fH, fG, fN, aS, qL, qR, qP) (nI κ) key (nI z) := by
  have I0 := I
  obtain ⟨V, h, m, mk, pd, np, nf, hh, hf, hkn⟩ := I
  have hh0 := hh
  obtain ⟨e1, e2, h3, e4, e5, h6, h7, h8, h9, h10, h11, h12, h13, h14, h15, h16⟩ := hh
  by_cases b : m = 40
  · have hX : PX (-1000000002) (xst, xow, xin, xpa, xfi, xfr, xno, xsi, xan, xkn, xen, xco, xrm, xac, K, N, Z, D, Im, W, P, vS, pO, pX, pI, fS, fP, fI, fU, fR, fO, fA, fH, fG, fN, aS, qL, qR, qP) := H _ _ (fun PY hy => by
      unfold wpY_takeOff
      dsimp only
      have e40 : yvm = 40 := by rw [e5, b]; rfl
      exact br_t e40 (hy _ (i_up I0)))
    unfold wpX_stackNested
    dsimp only
    have x40 : ¬ xow < 40 := by rw [e4, b]; decide
    exact br_f x40 hX
  by_cases b2 : h < z
  · have hX : PX (-1000000003) (xst, xow, xin, xpa, xfi, xfr, xno, xsi, xan, xkn, xen, xco, xrm, xac, K, N, Z, D, Im, W, P, vS, pO, pX, pI, fS, fP, fI, fU, fR, fO, fA, fH, fG, fN, aS, qL, qR, qP) := H _ _ (fun PY hy => by
      unfold wpY_takeOff
      dsimp only
      rw [e5, e2]
      exact br_f (fun z => absurd ((nI_eq (b := 40) (by omega) (by omega)).mp z) (by omega)) (br_f (nI_ge b2 (by omega)) (hy _ (e5 ▸ e2 ▸ I0))))
    unfold wpX_stackNested
    dsimp only
    rw [e4, e1]
    exact br_t (nI_lt (b := 40) (by omega) (by omega)) (br_f (nI_ge b2 (by omega)) (e4 ▸ e1 ▸ hX))
  by_cases b3 : h - z = 12
  · have hX : PX (-1000000002) (xst, xow, xin, xpa, xfi, xfr, xno, xsi, xan, xkn, xen, xco, xrm, xac, K, N, Z, D, Im, W, P, vS, pO, pX, pI, fS, fP, fI, fU, fR, fO, fA, fH, fG, fN, aS, qL, qR, qP) := H _ _ (fun PY hy => by
      unfold wpY_takeOff
      dsimp only
      rw [e5, e2, pk_sub (by omega)]
      exact br_f (fun z => absurd ((nI_eq (b := 40) (by omega) (by omega)).mp z) (by omega)) (br_t (nI_le (by omega) (by omega)) (br_t (by rw [b3]; rfl) (hy _ (e5 ▸ e2 ▸ I0)))))
    unfold wpX_stackNested
    dsimp only
    rw [e4, e1, pk_sub (by omega)]
    exact br_t (nI_lt (b := 40) (by omega) (by omega)) (br_t (nI_le (by omega) (by omega)) (nm_e (br_f (by rw [b3]; decide) (e4 ▸ e1 ▸ hX))))
  have hne : ∀ t, V t → t ≠ 13 + m := fun t ht => by have := h12 t ht; omega
  obtain ⟨c, e, q, w, hc⟩ := ns_ex h11 (s := 13 + m) (z := z) (ch := fun i => vS (h - z + i)) (fun i hi => by
    obtain ⟨n, a1, a2, a3, _⟩ := h15 (h - z + i) (by omega)
    exact ⟨n, a1, a3, fun _ => by have := h12 n a3; omega⟩)
  have hcy : ∀ i, i < z → yd_is d (ys (h - z + i)) (e i) := fun i hi => by
    obtain ⟨c1, c2, c3, c4, c5, c6, _⟩ := hc i hi
    exact yd_of_R h11 h14 (h15 (h - z + i) (by omega)) c1 c2 c5 c6
  refine xm_stackNested (kk := kk) e1 e4 (by omega) (by omega) h3 (by omega) hz (by rcases h45 with x | x; exact Or.inl ⟨x.1, x.2.1⟩; exact Or.inr ⟨x.1, x.2.1⟩) hc hne (fun K' N' Z' D' Im' W' P' hns => ⟨fun hmx => H _ _ (fun PY hy => ?_), fun hmx => H _ _ (fun PY hy => ?_)⟩)
  · refine ym_takeOff (mk := mk) (pd := pd) (e := e) e2 e5 (by omega) (by omega) h3 (by omega) hz (by omega) h7 h8 (by omega) (by omega) hcy ⟨fun _ pl' hlo hhi => hy _ ?_, fun h4 => absurd h4 (by omega)⟩
    have heq := ns_eq hns hne
    have hox := ns_ox h11 hns hne (by omega) hc hz hmx h45
    have hk := cy_keep (o := o) (l := l) (kS := kS) (d := d) (mk := mk) (x := nI pd) (y := nI z) (z := key) (t := nI (vv_mx e z + 1)) (by omega) hlo
    have hcy' : vv_cy (mk + 1) (pd + z) (upd o mk (nI pd)) (upd l mk (nI z)) pl' := cy_add h14 (by omega) (by omega) (Nat.le_refl _) (by omega) hz hlo (fun i hi => by
      rw [hhi i hi]
      obtain ⟨_, _, _, _, a5, _⟩ := h15 (h - z + i) (by omega)
      exact a5)
    have hup : ∀ {s : Int32} {w : Int64}, vv_R V K N Z D P mk o l kS d pl s w → vv_R (fun t => V t ∨ t = 13 + m) K' N' Z' D' P' (mk + 1) (upd o mk (nI pd)) (upd l mk (nI z)) (upd kS mk key) (upd d mk (nI (vv_mx e z + 1))) pl' s w := fun hR => vv_R_up h11 h14 (fun s hs => ⟨Or.inl hs, vv_eq_x heq s hs⟩) (Nat.le_succ _) hk hR
    refine ⟨fun t => V t ∨ t = 13 + m, h - z + 1, m + 1, mk + 1, pd + z, np, nf, ⟨rfl, rfl, by omega, rfl, rfl, by omega, rfl, rfl, by omega, by omega, hox, fun s hs => ?_, rl_b_up h13 (fun _ z => Or.inl z) (fun s hs => ⟨(heq s hs).1, (heq s hs).2.1⟩), hcy', fun i hi => ?_, hup h16⟩, hf, rl_k_up (Nat.le_succ m) (ns_eq hns (fun s hs => by rcases hs with z | z <;> omega)) (rl_xin h11 heq h16) hkn⟩
    · rcases hs with z | z
      · have := h12 s z; omega
      · omega
    · by_cases ei : i = h - z
      · subst ei
        rw [pk_us, pk_uLs]
        obtain ⟨_, n1, n2, n3, n4, n5, n6, n7⟩ := hns
        refine vv_R_nest (j := mk) (a := pd) (b := z) (by omega) (Or.inr rfl) (by omega) n1 (by omega) (by omega) hz (by omega) pk_us pk_us (n2.trans pk_us.symm) n3 (n4.trans pk_us.symm) (fun i hi => ?_)
        rw [n7 i hi, hhi i hi]
        exact hup (h15 (h - z + i) (by omega))
      · rw [pk_un ei, pk_uLn ei]
        exact hup (h15 i (by omega))
  · refine ym_takeOff (mk := mk) (pd := pd) (e := e) e2 e5 (by omega) (by omega) h3 (by omega) hz (by omega) h7 h8 (by omega) (by omega) hcy ⟨fun h3 => absurd h3 (by omega), fun _ => hy _ ?_⟩
    have heq := ns_eq hns hne
    exact ⟨V, h, m, mk, pd, np, nf, rl_h_eq hh0 heq, hf, rl_k_up (Nat.le_refl m) (ns_eq hns (fun s hs => by rcases hs with z | z <;> omega)) (rl_xin h11 heq h16) hkn⟩
theorem i_vc_array {k : Nat} {u : SX} {v : SY} (I : i_Rel k u v) (hk : k + 3 ≤ 1536) (v1 : Int32) : wpX_array (fun r u' => wpY_array (fun r' v' => r' = r ∧ i_Rel (k + 3) u' v') v v1) u v1 := by
  obtain ⟨xst, xow, xin, xpa, xfi, xfr, xno, xsi, xan, xkn, xen, xco, xrm, xac, K, N, Z, D, Im, W, P, vS, pO, pX, pI, fS, fP, fI, fU, fR, fO, fA, fH, fG, fN, aS, qL, qR, qP⟩ := u
  obtain ⟨yma, ypo, yhe, yvm, yin, yfi, yde, yap, yas, yto, yan, yco, yti, yna, yac, yen, yic, o, l, kS, d, pl, ys, yk, yn, yp, yf, yo, yi, yw, ya, y1, y2, yK, yW, yL, yq, nm, nv, no, yA, lf, rt, iK, iN⟩ := v
  by_cases a0 : v1 < 0
  · unfold wpX_array wpY_array
    dsimp only
    exact br_t a0 (br_t a0 ⟨rfl, I⟩)
  by_cases a1 : v1 ≤ 10
  case neg =>
    unfold wpX_array wpY_array
    dsimp only
    exact br_f a0 (br_f a1 (br_f a0 (br_f a1 ⟨rfl, I⟩)))
  obtain ⟨z, hz, rfl⟩ := nI_of2 (n := 10) (by decide) a0 a1
  unfold wpX_array
  dsimp only
  refine br_f a0 (br_t a1 (ns_both (κ := 4) (kk := 0) I hz (Or.inl ⟨rfl, rfl, rfl⟩) _ (fun r u' hY => ?_)))
  obtain ⟨xst', xow', xin', xpa', xfi', xfr', xno', xsi', xan', xkn', xen', xco', xrm', xac', K', N', Z', D', Im', W', P', vS', pO', pX', pI', fS', fP', fI', fU', fR', fO', fA', fH', fG', fN', aS', qL', qR', qP'⟩ := u'
  unfold wpY_array
  dsimp only
  refine br_f a0 (br_t a1 (hY _ (fun v' hI => ?_)))
  obtain ⟨yma', ypo', yhe', yvm', yin', yfi', yde', yap', yas', yto', yan', yco', yti', yna', yac', yen', yic', o', l', kS', d', pl', ys', yk', yn', yp', yf', yo', yi', yw', ya', y1', y2', yK', yW', yL', yq', nm', nv', no', yA', lf', rt', iK', iN'⟩ := v'
  exact ⟨rfl, hI⟩
theorem vv_pc_8 {m : Nat} : vv_pc m 8 ≤ 10 := by
  have := vv_sm_le (f := fun i => m / 2 ^ i % 2) (b := 1) 8 (fun i _ => by show m / 2 ^ i % 2 ≤ 1; omega)
  unfold vv_pc
  omega
theorem i_vc_object {k : Nat} {u : SX} {v : SY} (I : i_Rel k u v) (hk : k + 3 ≤ 1536) (v1 : Int32) : wpX_object (fun r u' => wpY_object (fun r' v' => r' = r ∧ i_Rel (k + 3) u' v') v v1) u v1 := by
  obtain ⟨xst, xow, xin, xpa, xfi, xfr, xno, xsi, xan, xkn, xen, xco, xrm, xac, K, N, Z, D, Im, W, P, vS, pO, pX, pI, fS, fP, fI, fU, fR, fO, fA, fH, fG, fN, aS, qL, qR, qP⟩ := u
  obtain ⟨yma, ypo, yhe, yvm, yin, yfi, yde, yap, yas, yto, yan, yco, yti, yna, yac, yen, yic, o, l, kS, d, pl, ys, yk, yn, yp, yf, yo, yi, yw, ya, y1, y2, yK, yW, yL, yq, nm, nv, no, yA, lf, rt, iK, iN⟩ := v
  by_cases a0 : v1 < 0
  · unfold wpX_object wpY_object
    dsimp only
    exact br_t a0 (br_t a0 ⟨rfl, I⟩)
  by_cases a1 : v1 ≤ 255
  case neg =>
    unfold wpX_object wpY_object
    dsimp only
    exact br_f a0 (br_f a1 (br_f a0 (br_f a1 ⟨rfl, I⟩)))
  obtain ⟨mm, hmm, rfl⟩ := nI_of2 (n := 255) (by decide) a0 a1
  unfold wpX_object
  dsimp only
  refine br_f a0 (br_t a1 (xm_keysBelow (b := 8) (by omega) (by omega) (ns_both (κ := 5) (kk := 1) I vv_pc_8 (Or.inr ⟨rfl, rfl, mm, by omega, rfl, rfl⟩) _ (fun r u' hY => ?_))))
  obtain ⟨xst', xow', xin', xpa', xfi', xfr', xno', xsi', xan', xkn', xen', xco', xrm', xac', K', N', Z', D', Im', W', P', vS', pO', pX', pI', fS', fP', fI', fU', fR', fO', fA', fH', fG', fN', aS', qL', qR', qP'⟩ := u'
  unfold wpY_object
  dsimp only
  refine br_f a0 (br_t a1 (ym_bits (by omega) ?_))
  rw [vv_pc_10 mm (by omega)]
  refine hY _ (fun v' hI => ?_)
  obtain ⟨yma', ypo', yhe', yvm', yin', yfi', yde', yap', yas', yto', yan', yco', yti', yna', yac', yen', yic', o', l', kS', d', pl', ys', yk', yn', yp', yf', yo', yi', yw', ya', y1', y2', yK', yW', yL', yq', nm', nv', no', yA', lf', rt', iK', iN'⟩ := v'
  exact ⟨rfl, hI⟩
end
section
/-! ===== the order: kinds, numbers, lists of keys ===== -/
def oo_lb : Nat → Nat → Nat
  | 0, _ => 0
  | n + 1, d => if d % 2 = 1 then 0 else oo_lb n (d / 2) + 1
/-- the order of two lists of keys, as sets of bits -/
def oo_k (a b : Nat) : Int32 :=
  if a = b then 0 else
    if a / 2 ^ oo_lb 8 (a ^^^ b) % 2 = 1 then (if b / 2 ^ oo_lb 8 (a ^^^ b) = 0 then 1 else -1) else (if a / 2 ^ oo_lb 8 (a ^^^ b) = 0 then -1 else 1)
theorem oo_t1 : ∀ d, d < 256 → d ≠ 0 → nI d &&& (-(nI d)) = nI (2 ^ oo_lb 8 d) ∧ oo_lb 8 d < 8 ∧ d / 2 ^ oo_lb 8 d % 2 = 1 := by decide +kernel
theorem oo_t2 : ∀ d, d < 256 → ∀ i, i < oo_lb 8 d → d / 2 ^ i % 2 = 0 := by decide +kernel
theorem oo_t3 : ∀ k, k < 8 → ∀ x, x < 256 → x / 2 ^ k % 2 = 0 → (x ≤ 2 ^ k ↔ x / 2 ^ k = 0) := by decide +kernel
theorem oo_x1 {a b : Nat} (ha : a < 256) (hb : b < 256) : a ^^^ b < 256 := Nat.xor_lt_two_pow (n := 8) ha hb
theorem oo_x2 (a b i : Nat) : (a ^^^ b) / 2 ^ i % 2 = (a / 2 ^ i + b / 2 ^ i) % 2 := by
  have h := Nat.testBit_xor a b i
  rw [Nat.testBit_eq_decide_div_mod_eq, Nat.testBit_eq_decide_div_mod_eq, Nat.testBit_eq_decide_div_mod_eq] at h
  generalize (a ^^^ b) / 2 ^ i = x at *
  generalize a / 2 ^ i = y at *
  generalize b / 2 ^ i = z at *
  rcases Nat.mod_two_eq_zero_or_one x with hx | hx <;> rcases Nat.mod_two_eq_zero_or_one y with hy | hy <;> rcases Nat.mod_two_eq_zero_or_one z with hz | hz <;> simp [hx, hy, hz] at h <;> omega
theorem oo_and : ∀ a, a < 256 → ∀ i, i < 8 → (a &&& 2 ^ i = 0 ↔ a / 2 ^ i % 2 = 0) := by decide +kernel
/-- the order of two heads -/
def oo_h (K N : Nat → Int32) (s t : Nat) : Int32 :=
  if K s = K t then (if K s = 3 then (if N t ≤ N s then (if N s ≤ N t then 0 else 1) else -1) else if K s = 5 then oo_k (N s).toNatClampNeg (N t).toNatClampNeg else 0) else if K t ≤ K s then 1 else -1
theorem oo_k_x {a b : Nat} (ha : a < 256) (hb : b < 256) (hne : a ≠ b) {post : Int32 → Prop} (hp : post (oo_k a b)) {xst xow xin xpa xfi xfr xno xsi xan xkn xen xco xrm xac : Int32} {K N Z D Im W P vS pO pX pI fS fP fI fU fR fO fA fH fG fN aS qL qR qP : Nat → Int32} :
    ∀ y, y = (nI a ^^^ nI b) &&& (-(nI a ^^^ nI b)) → (((nI a &&& y) = 0 → wX_headOrder_105 post (nI a) (nI b) y 0 xst xow xin xpa xfi xfr xno xsi xan xkn xen xco xrm xac K N Z D Im W P vS pO pX pI fS fP fI fU fR fO fA fH fG fN aS qL qR qP) ∧ (¬ (nI a &&& y) = 0 → wX_headOrder_105 post (nI a) (nI b) y 1 xst xow xin xpa xfi xfr xno xsi xan xkn xen xco xrm xac K N Z D Im W P vS pO pX pI fS fP fI fU fR fO fA fH fG fN aS qL qR qP)) := by
  have h0 : a ^^^ b ≠ 0 := by
    intro e
    apply hne
    apply Nat.eq_of_testBit_eq
    intro i
    have h := Nat.testBit_xor a b i
    rw [e, Nat.zero_testBit] at h
    revert h
    cases a.testBit i <;> cases b.testBit i <;> simp
  have hx := oo_x1 ha hb
  obtain ⟨t1, t2, t3⟩ := oo_t1 _ hx h0
  rw [oo_x2] at t3
  rw [nx_xor, t1]
  have hb2 : 2 ^ oo_lb 8 (a ^^^ b) ≤ 2 ^ 7 := Nat.pow_le_pow_right (by decide) (by omega)
  unfold oo_k at hp
  rw [if_neg hne] at hp
  refine nm_e ?_
  rw [nx_and]
  have ek : nI (a &&& 2 ^ oo_lb 8 (a ^^^ b)) = 0 ↔ a / 2 ^ oo_lb 8 (a ^^^ b) % 2 = 0 := by
    rw [← oo_and a ha _ t2, ← nI_0]
    exact nI_eq (Nat.lt_of_le_of_lt Nat.and_le_left (by omega)) (by omega)
  refine ek_if ek (fun z => ?_) (fun z => ?_)
  · rw [if_neg (by omega)] at hp
    unfold wX_headOrder_105
    refine br_t rfl ?_
    unfold wX_headOrder_118
    have h3 := oo_t3 _ t2 a ha z
    refine pk_le a (2 ^ oo_lb 8 (a ^^^ b)) (fun hle => ?_) (fun hlt => ?_)
    · rw [if_pos (h3.mp hle)] at hp
      unfold wX_headOrder_132
      exact br_t rfl hp
    · rw [if_neg (fun e => by have := h3.mpr e; omega)] at hp
      unfold wX_headOrder_132
      exact br_f (by decide) hp
  · rw [if_pos (by omega)] at hp
    unfold wX_headOrder_105
    refine br_f (by decide) ?_
    unfold wX_headOrder_118
    have h3 := oo_t3 _ t2 b hb (by omega)
    refine pk_le b (2 ^ oo_lb 8 (a ^^^ b)) (fun hle => ?_) (fun hlt => ?_)
    · rw [if_pos (h3.mp hle)] at hp
      unfold wX_headOrder_132
      exact br_f (by decide) hp
    · rw [if_neg (fun e => by have := h3.mpr e; omega)] at hp
      unfold wX_headOrder_132
      exact br_t rfl hp
end
section
/-! ===== X compares ===== -/
section
variable {V : Nat → Prop} {K N Z D Im W P : Nat → Int32}
theorem oo_k_r (a : Nat) : oo_k a a = 0 := by unfold oo_k; rw [if_pos rfl]
theorem oo_h_r (s : Nat) : oo_h K N s s = 0 := by
  unfold oo_h
  rw [if_pos rfl]
  by_cases h3 : K s = 3
  · rw [if_pos h3, if_pos (Int32.le_refl _), if_pos (Int32.le_refl _)]
  · rw [if_neg h3]
    by_cases h5 : K s = 5
    · rw [if_pos h5, oo_k_r]
    · rw [if_neg h5]
/-- kinds of valid slots, and what their numbers are -/
theorem oo_kind (hx : vv_ox V K N Z D Im W P) {s : Nat} (hs : V s) : ∃ κ, κ ≤ 5 ∧ K s = nI κ ∧ (κ ≠ 3 → κ ≠ 5 → N s = 0) ∧ (κ = 5 → ∃ m, m < 256 ∧ N s = nI m) := by
  obtain ⟨_, ⟨k1, a1, a2, a3, a4⟩ | ⟨k1, z, dd, a1, a2, _, _, _, _, _, a8, a9, _⟩⟩ := hx s hs
  · exact ⟨k1, by omega, a2, fun z _ => a3 (by omega), fun z => absurd z (by omega)⟩
  · refine ⟨k1, a1.elim (fun w => by rw [w]; decide) (fun w => by rw [w]; decide), a2, fun _ z => a8 (a1.resolve_right z), fun z => ?_⟩
    obtain ⟨m, b1, b2, _⟩ := a9 z
    exact ⟨m, b1, b2⟩
end
theorem xm_headOrder {xst xow xin xpa xfi xfr xno xsi xan xkn xen xco xrm xac : Int32} {K N Z D Im W P vS pO pX pI fS fP fI fU fR fO fA fH fG fN aS qL qR qP : Nat → Int32} {V : Nat → Prop} {post : Int32 → Prop} {s t : Nat} (hx : vv_ox V K N Z D Im W P) (hs : V s) (ht : V t) (hp : post (oo_h K N s t)) : wpX_headOrder post (xst, xow, xin, xpa, xfi, xfr, xno, xsi, xan, xkn, xen, xco, xrm, xac, K, N, Z, D, Im, W, P, vS, pO, pX, pI, fS, fP, fI, fU, fR, fO, fA, fH, fG, fN, aS, qL, qR, qP) (nI s) (nI t) := by
  have s6 := (hx s hs).1
  have t6 := (hx t ht).1
  obtain ⟨κ, h5, eK, hN, hM⟩ := oo_kind hx hs
  obtain ⟨κ', h5', eK', hN', hM'⟩ := oo_kind hx ht
  have i1 : vp_in (nI s) 653 := vp_in_nI s6 (by omega)
  have i2 : vp_in (nI t) 653 := vp_in_nI t6 (by omega)
  unfold wpX_headOrder
  dsimp only
  rw [nI_clamp (show s < 2 ^ 31 by omega), nI_clamp (show t < 2 ^ 31 by omega)]
  unfold oo_h at hp
  refine ⟨i1, i2, br_c (fun e => ?_) (fun ne => ?_)⟩
  · rw [if_pos e] at hp
    refine ⟨i1, nm_e ⟨i2, nm_e (br_c (fun eN => ?_) (fun nN => ⟨i1, br_c (fun e3 => ?_) (fun n3 => ?_)⟩))⟩⟩
    · by_cases h3 : K s = 3
      · rw [if_pos h3, eN, if_pos (Int32.le_refl _), if_pos (Int32.le_refl _)] at hp
        exact hp
      · rw [if_neg h3] at hp
        by_cases h5 : K s = 5
        · rw [if_pos h5, eN, oo_k_r] at hp
          exact hp
        · rw [if_neg h5] at hp
          exact hp
    · rw [if_pos e3] at hp
      refine br_c (fun le => ?_) (fun nle => ?_)
      · rw [if_pos le, if_neg (fun le' => nN (Int32.le_antisymm le' le))] at hp
        exact hp
      · rw [if_neg nle] at hp
        exact hp
    · have e5 : κ = 5 := by
        rcases Nat.lt_or_ge κ 5 with z | z
        · have k3 : κ ≠ 3 := fun w => n3 (by rw [eK, w]; rfl)
          have kk : κ' = κ := (nI_eq (by omega) (by omega)).mp (eK'.symm.trans (e.symm.trans eK))
          exact absurd ((hN k3 (by omega)).trans (hN' (by omega) (by omega)).symm) nN
        · omega
      have kk : κ' = κ := (nI_eq (by omega) (by omega)).mp (eK'.symm.trans (e.symm.trans eK))
      obtain ⟨a, a1, a2⟩ := hM e5
      obtain ⟨b, b1, b2⟩ := hM' (by omega)
      rw [if_neg n3, if_pos (by rw [eK, e5]; rfl), a2, b2, nI_clamp (by omega), nI_clamp (by omega)] at hp
      rw [a2, b2]
      exact oo_k_x a1 b1 (fun w => nN (by rw [a2, b2, w])) hp
  · rw [if_neg ne] at hp
    refine ⟨i1, i2, br_c (fun le => ?_) (fun nle => ?_)⟩
    · rw [if_pos le] at hp
      exact hp
    · rw [if_neg nle] at hp
      exact hp
/-- two answers of a comparison mean the same -/
def oo_same (r q : Int32) : Prop := (r = 0 ↔ q = 0) ∧ (r < 0 ↔ q < 0)
theorem oo_same_r (r : Int32) : oo_same r r := ⟨Iff.rfl, Iff.rfl⟩
theorem oo_same_sg {a b : Nat} (ha : a ≤ 10) (hb : b ≤ 10) : oo_same (nI a - nI b) (oo_sg a b) := by
  have h : (nI a - nI b).toInt = (a : Int) - b := pk_sub_toInt (by omega) (by omega)
  unfold oo_same oo_sg
  have z0 : (0 : Int32).toInt = 0 := by decide
  have e1 : nI a - nI b = 0 ↔ a = b := by
    constructor
    · intro e
      have := congrArg Int32.toInt e
      omega
    · intro e
      apply Int32.toInt_inj.mp
      omega
  have e2 : nI a - nI b < 0 ↔ a < b := by
    rw [Int32.lt_iff_toInt_lt]
    omega
  rw [e1, e2]
  rcases Nat.lt_trichotomy a b with z | z | z
  · rw [if_pos z]
    exact ⟨⟨fun w => absurd w (by omega), fun w => absurd w (by decide)⟩, ⟨fun _ => by decide, fun _ => z⟩⟩
  · rw [if_neg (by omega), if_neg (by omega)]
    exact ⟨⟨fun _ => rfl, fun _ => z⟩, ⟨fun w => absurd w (by omega), fun w => absurd w (by decide)⟩⟩
  · rw [if_neg (by omega), if_pos z]
    exact ⟨⟨fun w => absurd w (by omega), fun w => absurd w (by decide)⟩, ⟨fun w => absurd w (by omega), fun w => absurd w (by decide)⟩⟩
/-- the steps that a pair may take -/
def oo_T : Nat → Nat
  | 0 => 1
  | d + 1 => 10 * (1 + oo_T d) + 1
/-- what is still to be compared of a pair from place q on -/
def oo_r (K N Z P : Nat → Int32) (dd s t q : Nat) : Int32 :=
  oo_l (fun i => oo_c (oo_h K N) Z P (dd - 1) (dp_ch P s i) (dp_ch P t i)) (oo_sg (Z s).toNatClampNeg (Z t).toNatClampNeg) (min (Z s).toNatClampNeg (Z t).toNatClampNeg - q) q
end
section
def oo_C (dd m : Nat) : Nat := m * (1 + oo_T (dd - 1)) + 1
theorem oo_C_T {d m : Nat} (hm : m ≤ 10) (h0 : d = 0 → m = 0) : oo_C d m ≤ oo_T d := by
  unfold oo_C
  cases d with
  | zero => rw [h0 rfl]; decide
  | succ d =>
    have : m * (1 + oo_T d) ≤ 10 * (1 + oo_T d) := Nat.mul_le_mul_right _ hm
    show m * (1 + oo_T d) + 1 ≤ 10 * (1 + oo_T d) + 1
    omega
section
variable {V : Nat → Prop} {K N Z D Im W P : Nat → Int32}
/-- what is asked of a slot in a comparison -/
theorem oo_slot (hx : vv_ox V K N Z D Im W P) {s : Nat} (hs : V s) : ∃ z e, z ≤ 10 ∧ e ≤ 4 ∧ Z s = nI z ∧ D s = nI e ∧ (e = 0 → z = 0) ∧ ∀ i, i < z → ∃ c e', P (s * 10 + i) = nI c ∧ dp_ch P s i = c ∧ c < 653 ∧ V c ∧ D c = nI e' ∧ e' < e := by
  obtain ⟨_, ⟨k1, a1, a2, a3, a4, a5, -⟩ | ⟨k1, z, dd, a1, a2, a3, a4, a5, a6, a7, -⟩⟩ := hx s hs
  · exact ⟨0, 0, by omega, by omega, a4, a5, fun _ => rfl, fun i hi => absurd hi (by omega)⟩
  · refine ⟨z, dd + 1, a4, by omega, a3, a5, fun h => absurd h (by omega), fun i hi => ?_⟩
    obtain ⟨c, c1, c2, c3, _, e', c4, c5⟩ := a7 i hi
    exact ⟨c, e', c1, by rw [dp_ch, c1, nI_clamp (by omega)], c2, c3, c5, by omega⟩
theorem oo_r_0 (dd s q : Nat) : oo_r K N Z P dd s s q = 0 := by
  unfold oo_r
  rw [oo_sg_r]
  exact oo_l_0 _ _ (fun i => oo_c_r (fun t => oo_h_r t) _ _)
theorem oo_r_e {dd s t q : Nat} (h : min (Z s).toNatClampNeg (Z t).toNatClampNeg ≤ q) : oo_r K N Z P dd s t q = oo_sg (Z s).toNatClampNeg (Z t).toNatClampNeg := by
  unfold oo_r
  rw [show min (Z s).toNatClampNeg (Z t).toNatClampNeg - q = 0 by omega]
  rfl
theorem oo_r_s {dd s t q : Nat} (h : q < min (Z s).toNatClampNeg (Z t).toNatClampNeg) : oo_r K N Z P dd s t q = if oo_c (oo_h K N) Z P (dd - 1) (dp_ch P s q) (dp_ch P t q) = 0 then oo_r K N Z P dd s t (q + 1) else oo_c (oo_h K N) Z P (dd - 1) (dp_ch P s q) (dp_ch P t q) := by
  unfold oo_r
  rw [show min (Z s).toNatClampNeg (Z t).toNatClampNeg - q = min (Z s).toNatClampNeg (Z t).toNatClampNeg - (q + 1) + 1 by omega, oo_l]
theorem oo_c_h {d s t : Nat} (h : oo_h K N s t ≠ 0) : oo_c (oo_h K N) Z P d s t = oo_h K N s t := by
  cases d with
  | zero => rfl
  | succ d => rw [oo_c, if_neg h]
theorem oo_c_0 {d s t : Nat} (h : oo_h K N s t = 0) (h0 : d = 0 → (Z s).toNatClampNeg = 0 ∧ (Z t).toNatClampNeg = 0) : oo_c (oo_h K N) Z P d s t = oo_r K N Z P d s t 0 := by
  cases d with
  | zero =>
    obtain ⟨a, b⟩ := h0 rfl
    rw [oo_r_e (by omega), a, b]
    exact h
  | succ d =>
    rw [oo_c, if_pos h]
    rfl
end
theorem xc_exit {xst xow xin xpa xfi xfr xno xsi xan xkn xen xco xrm xac : Int32} {K N Z D Im W P vS pO pX pI fS fP fI fU fR fO fA fH fG fN aS qL qR qP : Nat → Int32} {post : Int32 → SX → Prop} {n : Nat} {r lv sp : Int32} (hr : ¬ r = 0) (hp : post r (xst, xow, xin, xpa, xfi, xfr, xno, xsi, xan, xkn, xen, xco, xrm, xac, K, N, Z, D, Im, W, P, vS, pO, pX, pI, fS, fP, fI, fU, fR, fO, fA, fH, fG, fN, aS, qL, qR, qP)) : wX_compared_34 post xst xow xin xpa xfi xfr xno xsi xan xkn xen xco xrm xac (n + 1) r lv sp K N Z D Im W P vS pO pX pI fS fP fI fU fR fO fA fH fG fN aS qL qR qP := by
  unfold wX_compared_34
  exact br_c (fun _ => hp) (fun _ => br_f hr hp)
theorem xc_head {xst xow xin xpa xfi xfr xno xsi xan xkn xen xco xrm xac : Int32} {K N Z D Im W P vS pO pX pI fS fP fI fU fR fO fA fH fG fN aS qL qR qP : Nat → Int32} {V : Nat → Prop} {post : Int32 → SX → Prop} {n L s t q zs zt st : Nat} (hx : vv_ox V K N Z D Im W P) (hst : st < 1000000) (hL : L ≤ 4) (hs : s < 653) (ht : t < 653) (hq : q ≤ 10) (hzs : zs ≤ 10) (hzt : zt ≤ 10) (eZs : Z s = nI zs) (eZt : Z t = nI zt) (eL : qL L = nI s) (eR : qR L = nI t) (eP : qP L = nI q)
    (h1 : s = t → wX_compared_34 post xst xow xin xpa xfi xfr xno xsi xan xkn xen xco xrm xac n 0 (nI L + (-1)) (nI (st + 1)) K N Z D Im W P vS pO pX pI fS fP fI fU fR fO fA fH fG fN aS qL qR qP)
    (h2 : (zs ≤ q ∨ zt ≤ q) → wX_compared_34 post xst xow xin xpa xfi xfr xno xsi xan xkn xen xco xrm xac n (nI zs - nI zt) (nI L + (-1)) (nI (st + 1)) K N Z D Im W P vS pO pX pI fS fP fI fU fR fO fA fH fG fN aS qL qR qP)
    (h3 : q < zs → q < zt → L < 4 ∧ ∃ s' t', P (s * 10 + q) = nI s' ∧ P (t * 10 + q) = nI t' ∧ V s' ∧ V t' ∧
      wX_compared_34 post xst xow xin xpa xfi xfr xno xsi xan xkn xen xco xrm xac n (oo_h K N s' t') (nI (L + 1)) (nI (st + 1)) K N Z D Im W P vS pO pX pI fS fP fI fU fR fO fA fH fG fN aS (upd qL (L + 1) (nI s')) (upd qR (L + 1) (nI t')) (upd (upd qP L (nI (q + 1))) (L + 1) 0)) :
    wX_compared_34 post xst xow xin xpa xfi xfr xno xsi xan xkn xen xco xrm xac (n + 1) 0 (nI L) (nI st) K N Z D Im W P vS pO pX pI fS fP fI fU fR fO fA fH fG fN aS qL qR qP := by
  have iL : vp_in (nI L) 5 := vp_in_nI (by omega) (by omega)
  have is : vp_in (nI s) 653 := vp_in_nI hs (by omega)
  have it : vp_in (nI t) 653 := vp_in_nI ht (by omega)
  have es : (nI s).toNatClampNeg = s := nI_clamp (by omega)
  have et : (nI t).toNatClampNeg = t := nI_clamp (by omega)
  have h114 : (zs ≤ q ∨ zt ≤ q) → wX_compared_114 post (wX_compared_34 post xst xow xin xpa xfi xfr xno xsi xan xkn xen xco xrm xac n) (nI L) (nI st) (nI s) (nI t) xst xow xin xpa xfi xfr xno xsi xan xkn xen xco xrm xac K N Z D Im W P vS pO pX pI fS fP fI fU fR fO fA fH fG fN aS qL qR qP := by
    intro hz
    unfold wX_compared_114
    rw [es, et, eZs, eZt]
    exact ⟨is, it, nm_e (nm_e (nm_r (nI_1 st) (h2 hz)))⟩
  unfold wX_compared_34
  rw [nI_clamp (show L < 2 ^ 31 by omega), eL, eR, eP]
  refine br_f (nI_ge (b := 1000000) hst (by omega)) (br_t rfl (br_f (nI_pos (by omega)) ⟨iL, nm_e ⟨iL, nm_e ⟨iL, nm_e (br_c (fun e => ?_) (fun ne => ⟨is, ?_⟩))⟩⟩⟩))
  · exact nm_e (nm_r (nI_1 st) (h1 ((nI_eq (by omega) (by omega)).mp e)))
  · rw [es, et, eZs, eZt]
    refine pk_le zs q (fun z => h114 (Or.inl z)) (fun z => ⟨it, pk_lt q zt (fun z' => ?_) (fun z' => h114 (Or.inr z'))⟩)
    obtain ⟨h4, s', t', c1, c2, c3, c3', c4⟩ := h3 z z'
    have iL' : vp_in (nI (L + 1)) 5 := vp_in_nI (by omega) (by omega)
    have eL' : (nI (L + 1)).toNatClampNeg = L + 1 := nI_clamp (by omega)
    rw [nI_1 q]
    refine ⟨iL, iL, nm_e (nm_r (nI_1 L) ?_)⟩
    rw [xi_10, xi_10, nI_clamp (show s * 10 + q < 2 ^ 31 by omega), nI_clamp (show t * 10 + q < 2 ^ 31 by omega), c1, c2, eL']
    refine ⟨vp_in_nI (by omega) (by omega), iL', nm_e ⟨vp_in_nI (by omega) (by omega), iL', nm_e ⟨iL', nm_e ⟨iL', iL', ?_⟩⟩⟩⟩
    rw [pk_us, pk_us, nI_1 st]
    exact xm_headOrder hx c3 c3' (nm_e c4)
theorem xc_se {xst xow xin xpa xfi xfr xno xsi xan xkn xen xco xrm xac : Int32} {K N Z D Im W P vS pO pX pI fS fP fI fU fR fO fA fH fG fN aS qL qR qP : Nat → Int32} {V : Nat → Prop} {post : Int32 → SX → Prop} (hx : vv_ox V K N Z D Im W P) {dd m L s t q zs zt st : Nat} (hL : L ≤ 4) (hs : V s) (ht : V t) (eZs : Z s = nI zs) (eZt : Z t = nI zt) (hzs : zs ≤ 10) (hzt : zt ≤ 10) (eL : qL L = nI s) (eR : qR L = nI t) (eP : qP L = nI q) (hq : q ≤ 10) (hst : st < 1000000) (hC : 1 ≤ m)
    (hdone : ∀ (r : Int32) (qL' qR' qP' : Nat → Int32), ¬ r = 0 → oo_same r (oo_r K N Z P dd s t q) → post r (xst, xow, xin, xpa, xfi, xfr, xno, xsi, xan, xkn, xen, xco, xrm, xac, K, N, Z, D, Im, W, P, vS, pO, pX, pI, fS, fP, fI, fU, fR, fO, fA, fH, fG, fN, aS, qL', qR', qP'))
    (hcont : oo_r K N Z P dd s t q = 0 → ∀ (qL' qR' qP' : Nat → Int32) st', (∀ i, i < L → qL' i = qL i ∧ qR' i = qR i ∧ qP' i = qP i) → st' ≤ st + m → wX_compared_34 post xst xow xin xpa xfi xfr xno xsi xan xkn xen xco xrm xac (1000001 - st') 0 (nI L + (-1)) (nI st') K N Z D Im W P vS pO pX pI fS fP fI fU fR fO fA fH fG fN aS qL' qR' qP')
    (h3 : q < zs → q < zt → L < 4 ∧ ∃ s' t', P (s * 10 + q) = nI s' ∧ P (t * 10 + q) = nI t' ∧ V s' ∧ V t' ∧
      wX_compared_34 post xst xow xin xpa xfi xfr xno xsi xan xkn xen xco xrm xac (1000000 - st) (oo_h K N s' t') (nI (L + 1)) (nI (st + 1)) K N Z D Im W P vS pO pX pI fS fP fI fU fR fO fA fH fG fN aS (upd qL (L + 1) (nI s')) (upd qR (L + 1) (nI t')) (upd (upd qP L (nI (q + 1))) (L + 1) 0)) :
    wX_compared_34 post xst xow xin xpa xfi xfr xno xsi xan xkn xen xco xrm xac (1000001 - st) 0 (nI L) (nI st) K N Z D Im W P vS pO pX pI fS fP fI fU fR fO fA fH fG fN aS qL qR qP := by
  rw [show 1000001 - st = (1000000 - st) + 1 by omega]
  have hc1 : oo_r K N Z P dd s t q = 0 → wX_compared_34 post xst xow xin xpa xfi xfr xno xsi xan xkn xen xco xrm xac (1000000 - st) 0 (nI L + (-1)) (nI (st + 1)) K N Z D Im W P vS pO pX pI fS fP fI fU fR fO fA fH fG fN aS qL qR qP := by
    intro h0
    have := hcont h0 qL qR qP (st + 1) (fun _ _ => ⟨rfl, rfl, rfl⟩) (by omega)
    rw [show 1000001 - (st + 1) = 1000000 - st by omega] at this
    exact this
  refine xc_head hx hst hL (hx s hs).1 (hx t ht).1 hq hzs hzt eZs eZt eL eR eP (fun e => ?_) (fun hz => ?_) h3
  · subst e
    exact hc1 (oo_r_0 _ _ _)
  · have he : oo_r K N Z P dd s t q = oo_sg zs zt := by
      rw [oo_r_e, eZs, eZt, nI_clamp (by omega), nI_clamp (by omega)]
      rw [eZs, eZt, nI_clamp (by omega), nI_clamp (by omega)]
      omega
    have hsm := oo_same_sg hzs hzt
    by_cases e : nI zs - nI zt = 0
    · rw [e]
      exact hc1 (he.trans (hsm.1.mp e))
    · rw [show 1000000 - st = (999999 - st) + 1 by omega]
      exact xc_exit e (hdone _ _ _ _ e (by rw [he]; exact hsm))
theorem xc_pair {xst xow xin xpa xfi xfr xno xsi xan xkn xen xco xrm xac : Int32} {K N Z D Im W P vS pO pX pI fS fP fI fU fR fO fA fH fG fN aS qL qR qP : Nat → Int32} {V : Nat → Prop} {post : Int32 → SX → Prop} (hx : vv_ox V K N Z D Im W P) : ∀ dd m L s t q zs zt (qL qR qP : Nat → Int32) st, L + dd ≤ 4 → V s → V t → (∃ e, D s = nI e ∧ e ≤ dd) → (∃ e, D t = nI e ∧ e ≤ dd) →
    Z s = nI zs → Z t = nI zt → zs ≤ 10 → zt ≤ 10 → min zs zt - q = m → qL L = nI s → qR L = nI t → qP L = nI q → q ≤ 10 → st + oo_C dd m ≤ 1000000 →
    (∀ (r : Int32) (qL' qR' qP' : Nat → Int32), ¬ r = 0 → oo_same r (oo_r K N Z P dd s t q) → post r (xst, xow, xin, xpa, xfi, xfr, xno, xsi, xan, xkn, xen, xco, xrm, xac, K, N, Z, D, Im, W, P, vS, pO, pX, pI, fS, fP, fI, fU, fR, fO, fA, fH, fG, fN, aS, qL', qR', qP')) →
    (oo_r K N Z P dd s t q = 0 → ∀ (qL' qR' qP' : Nat → Int32) st', (∀ i, i < L → qL' i = qL i ∧ qR' i = qR i ∧ qP' i = qP i) → st' ≤ st + oo_C dd m → wX_compared_34 post xst xow xin xpa xfi xfr xno xsi xan xkn xen xco xrm xac (1000001 - st') 0 (nI L + (-1)) (nI st') K N Z D Im W P vS pO pX pI fS fP fI fU fR fO fA fH fG fN aS qL' qR' qP') →
    wX_compared_34 post xst xow xin xpa xfi xfr xno xsi xan xkn xen xco xrm xac (1000001 - st) 0 (nI L) (nI st) K N Z D Im W P vS pO pX pI fS fP fI fU fR fO fA fH fG fN aS qL qR qP := by
  intro dd
  induction dd with
  | zero =>
    intro m L s t q zs zt qL qR qP st hL hs ht hDs hDt eZs eZt hzs hzt hm eL eR eP hq hst hdone hcont
    obtain ⟨zs', es, c1, c2, c3, c4, c5, -⟩ := oo_slot hx hs
    obtain ⟨e1, x1, x2⟩ := hDs
    have z1 : zs = 0 := by
      have a1 := (nI_eq (by omega) (by omega)).mp (c4.symm.trans x1)
      have a2 := (nI_eq (by omega) (by omega)).mp (c3.symm.trans eZs)
      omega
    exact xc_se hx (by omega) hs ht eZs eZt hzs hzt eL eR eP hq (by unfold oo_C at hst; omega) (by unfold oo_C; omega) hdone hcont (fun h => absurd h (by omega))
  | succ dd ihd =>
    intro m
    induction m with
    | zero =>
      intro L s t q zs zt qL qR qP st hL hs ht hDs hDt eZs eZt hzs hzt hm eL eR eP hq hst hdone hcont
      exact xc_se hx (by omega) hs ht eZs eZt hzs hzt eL eR eP hq (by unfold oo_C at hst; omega) (by unfold oo_C; omega) hdone hcont (fun h h' => absurd h (by omega))
    | succ m ihm =>
      intro L s t q zs zt qL qR qP st hL hs ht hDs hDt eZs eZt hzs hzt hm eL eR eP hq hst hdone hcont
      have hC : oo_C (dd + 1) (m + 1) = oo_C (dd + 1) m + (1 + oo_T dd) := by
        unfold oo_C
        show (m + 1) * (1 + oo_T dd) + 1 = m * (1 + oo_T dd) + 1 + (1 + oo_T dd)
        rw [Nat.succ_mul]
        omega
      have hC1 : 1 ≤ oo_C (dd + 1) m := by unfold oo_C; omega
      refine xc_se hx (by omega) hs ht eZs eZt hzs hzt eL eR eP hq (by omega) (by omega) hdone hcont (fun hqs hqt => ⟨by omega, ?_⟩)
      obtain ⟨zs', es, c1, c2, c3, c4, c5, c6⟩ := oo_slot hx hs
      obtain ⟨zt', et, d1, d2, d3, d4, d5, d6⟩ := oo_slot hx ht
      have a2 : zs' = zs := (nI_eq (by omega) (by omega)).mp (c3.symm.trans eZs)
      have b2 : zt' = zt := (nI_eq (by omega) (by omega)).mp (d3.symm.trans eZt)
      obtain ⟨e1, x1, x2⟩ := hDs
      obtain ⟨e2, y1, y2⟩ := hDt
      have a1 : es = e1 := (nI_eq (by omega) (by omega)).mp (c4.symm.trans x1)
      have b1 : et = e2 := (nI_eq (by omega) (by omega)).mp (d4.symm.trans y1)
      obtain ⟨s', es', p1, p2, p3, p4, p5, p6⟩ := c6 q (by omega)
      obtain ⟨t', et', r1, r2, r3, r4, r5, r6⟩ := d6 q (by omega)
      obtain ⟨zs2, es2, g1, g2, g3, g4, g5, -⟩ := oo_slot hx p4
      obtain ⟨zt2, et2, f1, f2, f3, f4, f5, -⟩ := oo_slot hx r4
      have k1 : es2 = es' := (nI_eq (by omega) (by omega)).mp (g4.symm.trans p5)
      have k2 : et2 = et' := (nI_eq (by omega) (by omega)).mp (f4.symm.trans r5)
      have hmin : q < min (Z s).toNatClampNeg (Z t).toNatClampNeg := by
        rw [eZs, eZt, nI_clamp (by omega), nI_clamp (by omega)]
        omega
      have hrs := oo_r_s (K := K) (N := N) (P := P) (dd := dd + 1) hmin
      rw [p2, r2, show dd + 1 - 1 = dd from rfl] at hrs
      refine ⟨s', t', p1, r1, p4, r4, ?_⟩
      by_cases hh : oo_h K N s' t' = 0
      · have hc0 := oo_c_0 (K := K) (N := N) (Z := Z) (P := P) (d := dd) hh (fun z => by
          rw [g3, f3, nI_clamp (by omega), nI_clamp (by omega)]
          omega)
        have hT : oo_C dd (min zs2 zt2 - 0) ≤ oo_T dd := oo_C_T (by omega) (fun z => by omega)
        rw [hh]
        have key := ihd (min zs2 zt2 - 0) (L + 1) s' t' 0 zs2 zt2 (upd qL (L + 1) (nI s')) (upd qR (L + 1) (nI t')) (upd (upd qP L (nI (q + 1))) (L + 1) 0) (st + 1) (by omega) p4 r4 ⟨es', p5, by omega⟩ ⟨et', r5, by omega⟩ g3 f3 g1 f1 rfl pk_us pk_us pk_us (by omega) (by omega) ?_ ?_
        · rw [show 1000001 - (st + 1) = 1000000 - st by omega] at key
          exact key
        · intro r qL' qR' qP' hr hsm
          refine hdone r qL' qR' qP' hr ?_
          have hne : ¬ oo_c (oo_h K N) Z P dd s' t' = 0 := by
            rw [hc0]
            exact fun z => hr (hsm.1.mpr z)
          rw [hrs, if_neg hne, hc0]
          exact hsm
        · intro h0 qL' qR' qP' st' hag hst'
          rw [pk_m1]
          obtain ⟨i1, i2, i3⟩ := hag L (by omega)
          rw [pk_un (by omega)] at i1 i2 i3
          rw [pk_us] at i3
          have hrs' : oo_r K N Z P (dd + 1) s t q = oo_r K N Z P (dd + 1) s t (q + 1) := by
            rw [hrs, if_pos (by rw [hc0]; exact h0)]
          refine ihm L s t (q + 1) zs zt qL' qR' qP' st' (by omega) hs ht ⟨e1, x1, x2⟩ ⟨e2, y1, y2⟩ eZs eZt hzs hzt (by omega) (i1.trans eL) (i2.trans eR) i3 (by omega) (by omega) ?_ ?_
          · intro r qL2 qR2 qP2 hr hsm
            rw [← hrs'] at hsm
            exact hdone r qL2 qR2 qP2 hr hsm
          · intro h1 qL2 qR2 qP2 st2 hag2 hst2
            rw [← hrs'] at h1
            refine hcont h1 qL2 qR2 qP2 st2 (fun i hi => ?_) (by omega)
            obtain ⟨j1, j2, j3⟩ := hag i (by omega)
            obtain ⟨w1, w2, w3⟩ := hag2 i hi
            rw [pk_un (by omega)] at j1 j2 j3
            rw [pk_un (by omega)] at j3
            exact ⟨w1.trans j1, w2.trans j2, w3.trans j3⟩
      · rw [show 1000000 - st = (999999 - st) + 1 by omega]
        refine xc_exit hh (hdone _ _ _ _ hh ?_)
        rw [hrs, if_neg (by rw [oo_c_h hh]; exact hh), oo_c_h hh]
        exact oo_same_r _
theorem xm_compared {xst xow xin xpa xfi xfr xno xsi xan xkn xen xco xrm xac : Int32} {K N Z D Im W P vS pO pX pI fS fP fI fU fR fO fA fH fG fN aS qL qR qP : Nat → Int32} {V : Nat → Prop} {post : Int32 → SX → Prop} {s t : Nat} (hx : vv_ox V K N Z D Im W P) (hs : V s) (ht : V t)
    (hp : ∀ (r : Int32) (qL' qR' qP' : Nat → Int32), oo_same r (oo_c (oo_h K N) Z P 4 s t) → post r (xst, xow, xin, xpa, xfi, xfr, xno, xsi, xan, xkn, xen, xco, xrm, xac, K, N, Z, D, Im, W, P, vS, pO, pX, pI, fS, fP, fI, fU, fR, fO, fA, fH, fG, fN, aS, qL', qR', qP')) : wpX_compared post (xst, xow, xin, xpa, xfi, xfr, xno, xsi, xan, xkn, xen, xco, xrm, xac, K, N, Z, D, Im, W, P, vS, pO, pX, pI, fS, fP, fI, fU, fR, fO, fA, fH, fG, fN, aS, qL, qR, qP) (nI s) (nI t) := by
  unfold wpX_compared
  dsimp only
  refine xm_headOrder hx hs ht (nm_e (nm_e (nm_e ⟨1000001 - 0, ?_⟩)))
  by_cases hh : oo_h K N s t = 0
  · obtain ⟨zs, es, c1, c2, c3, c4, c5, -⟩ := oo_slot hx hs
    obtain ⟨zt, et, d1, d2, d3, d4, d5, -⟩ := oo_slot hx ht
    have hc0 := oo_c_0 (K := K) (N := N) (Z := Z) (P := P) (d := 4) hh (fun z => absurd z (by omega))
    have hT : oo_C 4 (min zs zt - 0) ≤ oo_T 4 := oo_C_T (by omega) (fun z => absurd z (by omega))
    have hT4 : oo_T 4 = 22221 := by decide
    rw [hh]
    refine xc_pair (qL := qL) (qR := qR) (qP := qP) hx 4 (min zs zt - 0) 0 s t 0 zs zt _ _ _ 0 (by omega) hs ht ⟨es, c4, c2⟩ ⟨et, d4, d2⟩ c3 d3 c1 d1 rfl pk_us pk_us pk_us (by omega) (by omega) ?_ ?_
    · intro r qL' qR' qP' hr hsm
      rw [← hc0] at hsm
      exact hp r qL' qR' qP' hsm
    · intro h0 qL' qR' qP' st' _ hst'
      rw [show 1000001 - st' = (1000000 - st') + 1 by omega]
      unfold wX_compared_34
      have hpp := hp 0 qL' qR' qP' (by rw [hc0, h0]; exact oo_same_r _)
      exact br_c (fun _ => hpp) (fun _ => br_t rfl (br_t (by decide) hpp))
  · refine xc_exit hh (hp _ _ _ _ ?_)
    rw [oo_c_h hh]
    exact oo_same_r _
end
section
/-! ===== X's run: counting, applying ===== -/
theorem xr_counts {xst xow xin xpa xfi xfr xno xsi xan xkn xen xco xrm xac : Int32} {K N Z D Im W P vS pO pX pI fS fP fI fU fR fO fA fH fG fN aS qL qR qP : Nat → Int32} {post : Int32 → SX → Prop} {c : Nat} (ec : xco = nI c) (hc : c < 600) (hp : post 1 (xst, xow, xin, xpa, xfi, xfr, xno, xsi, xan, xkn, xen, (nI (c + 1)), xrm, xac, K, N, Z, D, Im, W, P, vS, pO, pX, pI, fS, fP, fI, fU, fR, fO, fA, fH, fG, fN, aS, qL, qR, qP)) : wpX_counts post (xst, xow, xin, xpa, xfi, xfr, xno, xsi, xan, xkn, xen, xco, xrm, xac, K, N, Z, D, Im, W, P, vS, pO, pX, pI, fS, fP, fI, fU, fR, fO, fA, fH, fG, fN, aS, qL, qR, qP) := by
  subst ec
  unfold wpX_counts
  dsimp only
  rw [nI_1]
  exact br_t (nI_lt (b := 600) hc (by omega)) (nm_e hp)
theorem xr_tired {xst xow xin xpa xfi xfr xno xsi xan xkn xen xco xrm xac : Int32} {K N Z D Im W P vS pO pX pI fS fP fI fU fR fO fA fH fG fN aS qL qR qP : Nat → Int32} {post : Int32 → SX → Prop} (ec : xco = nI 600) (hp : post 0 (xst, xow, xin, xpa, xfi, xfr, xno, xsi, xan, xkn, 3, xco, xrm, xac, K, N, Z, D, Im, W, P, vS, pO, pX, pI, fS, fP, fI, fU, fR, fO, fA, fH, fG, fN, aS, qL, qR, qP)) : wpX_counts post (xst, xow, xin, xpa, xfi, xfr, xno, xsi, xan, xkn, xen, xco, xrm, xac, K, N, Z, D, Im, W, P, vS, pO, pX, pI, fS, fP, fI, fU, fR, fO, fA, fH, fG, fN, aS, qL, qR, qP) := by
  subst ec
  unfold wpX_counts
  dsimp only
  exact br_f (by decide) hp
def fn_c (fN : Nat → Int32) (n g : Nat) : Nat → Nat → Int32
  | 0 => fN
  | i + 1 => upd (fn_c fN n g i) (n * 3 + i) (fN (g * 3 + i))
def fn_z (fN : Nat → Int32) (n : Nat) : Nat → Nat → Int32
  | 0 => fN
  | i + 1 => upd (fn_z fN n i) (n * 3 + i) 0
theorem fn_c_lo {fN : Nat → Int32} {n g j : Nat} (hj : j < n * 3) : ∀ i, fn_c fN n g i j = fN j
  | 0 => rfl
  | i + 1 => by rw [fn_c, pk_un (by omega)]; exact fn_c_lo hj i
theorem fn_c_at {fN : Nat → Int32} {n g x : Nat} : ∀ i, x < i → fn_c fN n g i (n * 3 + x) = fN (g * 3 + x)
  | 0, h => absurd h (by omega)
  | i + 1, h => by
    rw [fn_c]
    by_cases e : x = i
    · subst e; rw [pk_us]
    · rw [pk_un (by omega)]; exact fn_c_at i (by omega)
theorem fn_z_at {fN : Nat → Int32} {n x : Nat} : ∀ i, x < i → fn_z fN n i (n * 3 + x) = 0
  | 0, h => absurd h (by omega)
  | i + 1, h => by
    rw [fn_z]
    by_cases e : x = i
    · subst e; rw [pk_us]
    · rw [pk_un (by omega)]; exact fn_z_at i (by omega)
theorem xr_apply {xst xow xin xpa xfi xfr xno xsi xan xkn xen xco xrm xac : Int32} {K N Z D Im W P vS pO pX pI fS fP fI fU fR fO fA fH fG fN aS qL qR qP : Nat → Int32} {post : SX → Prop} {n c g q r : Nat} {s : Int32} (efr : xfr = nI n) (eno : xno = nI g) (eco : xco = nI c) (hn : n < 600) (hc : c < 600) (hg : g < n) (eP : fP g = nI q) (hq : q < 40) (hr : r < 3)
    (h0 : r = 0 → post (xst, xow, xin, xpa, xfi, (nI (n + 1)), (nI n), 0, xan, xkn, xen, (nI (c + 1)), xrm, xac, K, N, Z, D, Im, W, P, vS, pO, pX, pI, fS, (upd fP n (pI (q * 3 + r))), (upd fI n s), (upd fU n (nI g)), (upd fR n (nI r)), (upd (upd fO n (-1)) g (nI n)), (upd (upd fA n (-1)) g (nI n)), (upd fH n 0), (upd fG n 0), (fn_c fN n g 3), aS, qL, qR, qP))
    (h1 : r ≠ 0 → post (xst, xow, xin, xpa, xfi, (nI (n + 1)), (nI n), 0, xan, xkn, xen, (nI (c + 1)), xrm, xac, K, N, Z, D, Im, W, P, vS, pO, pX, pI, fS, (upd fP n (pI (q * 3 + r))), (upd fI n s), (upd fU n (nI g)), (upd fR n (nI r)), (upd fO n (-1)), (upd (upd fA n (-1)) g (nI n)), (upd fH n 0), (upd fG n 0), (fn_c fN n g 3), aS, qL, qR, qP)) :
    wpX_apply post (xst, xow, xin, xpa, xfi, xfr, xno, xsi, xan, xkn, xen, xco, xrm, xac, K, N, Z, D, Im, W, P, vS, pO, pX, pI, fS, fP, fI, fU, fR, fO, fA, fH, fG, fN, aS, qL, qR, qP) (nI r) s := by
  subst efr eno eco
  have eg : (nI g).toNatClampNeg = g := nI_clamp (by omega)
  have en : (nI n).toNatClampNeg = n := nI_clamp (by omega)
  have hin : vp_in (nI n) 600 := vp_in_nI hn (by omega)
  have hig : vp_in (nI g) 600 := vp_in_nI (by omega) (by omega)
  have k131 : ∀ t i, i + t = 3 → wX_apply_131 post (nI r) (nI n) 0 xst xow xin xpa xfi (nI (n + 1)) (nI g) xsi xan xkn xen (nI (c + 1)) xrm xac (t + 1) (nI i) K N Z D Im W P vS pO pX pI fS (upd fP n (pI (q * 3 + r))) (upd fI n s) (upd fU n (nI g)) (upd fR n (nI r)) (upd fO n (-1)) (upd fA n (-1)) (upd fH n 0) (upd fG n 0) (fn_c fN n g i) aS qL qR qP := by
    intro t
    induction t with
    | zero =>
      intro i hi
      have hi' : i = 3 := by omega
      subst hi'
      unfold wX_apply_131
      rw [eg]
      refine br_t (nI_le (a := 3) (Nat.le_refl _) (by omega)) (br_t rfl ⟨hig, nm_e ?_⟩)
      refine pk_eq r 0 (fun z => ⟨hig, nm_e (h0 z)⟩) (fun z => h1 z)
    | succ t ih =>
      intro i hi
      unfold wX_apply_131
      rw [xi_3, xi_3, nI_clamp (show g * 3 + i < 2 ^ 31 by omega), nI_clamp (show n * 3 + i < 2 ^ 31 by omega), fn_c_lo (show g * 3 + i < n * 3 by omega)]
      exact br_f (nI_ge (b := 3) (by omega) (by omega)) (br_t rfl ⟨vp_in_nI (by omega) (by omega), vp_in_nI (by omega) (by omega), nm_e (nm_r (nI_1 i) (ih (i + 1) (by omega)))⟩)
  unfold wpX_apply
  dsimp only
  refine xr_counts rfl hc ?_
  dsimp only
  refine br_f (by decide) (nm_r (nI_1 n) (br_f (fr_n1 (by omega)) ?_))
  unfold wX_apply_36
  rw [eg, eP, xi_3, nI_clamp (show q * 3 + r < 2 ^ 31 by omega)]
  refine br_t rfl ⟨hig, vp_in_nI (by omega) (by omega), ?_⟩
  unfold wX_apply_75
  rw [en]
  exact ⟨hin, nm_e ⟨hin, nm_e ⟨hin, nm_e ⟨hin, nm_e ⟨hin, nm_e ⟨hin, nm_e ⟨hin, nm_e ⟨hin, nm_e ⟨_, k131 3 0 (by omega)⟩⟩⟩⟩⟩⟩⟩⟩⟩
theorem xr_apply_t {xst xow xin xpa xfi xfr xno xsi xan xkn xen xco xrm xac : Int32} {K N Z D Im W P vS pO pX pI fS fP fI fU fR fO fA fH fG fN aS qL qR qP : Nat → Int32} {post : SX → Prop} {r s : Int32} (eco : xco = nI 600) (hp : post (xst, xow, xin, xpa, xfi, xfr, xno, xsi, xan, xkn, 3, xco, xrm, xac, K, N, Z, D, Im, W, P, vS, pO, pX, pI, fS, fP, fI, fU, fR, fO, fA, fH, fG, fN, aS, qL, qR, qP)) : wpX_apply post (xst, xow, xin, xpa, xfi, xfr, xno, xsi, xan, xkn, xen, xco, xrm, xac, K, N, Z, D, Im, W, P, vS, pO, pX, pI, fS, fP, fI, fU, fR, fO, fA, fH, fG, fN, aS, qL, qR, qP) r s := by
  unfold wpX_apply
  dsimp only
  exact xr_tired eco (br_t rfl hp)
theorem xr_apply_0 {xst xow xin xpa xfi xfr xno xsi xan xkn xen xco xrm xac : Int32} {K N Z D Im W P vS pO pX pI fS fP fI fU fR fO fA fH fG fN aS qL qR qP : Nat → Int32} {post : SX → Prop} {s : Int32} (efr : xfr = 0) (eno : xno = -1) (eco : xco = 0)
    (hp : post (xst, xow, xin, xpa, xfi, (nI 1), (nI 0), 0, xan, xkn, xen, (nI 1), xrm, xac, K, N, Z, D, Im, W, P, vS, pO, pX, pI, fS, (upd fP 0 (fS 0)), (upd fI 0 s), (upd fU 0 (-1)), (upd fR 0 0), (upd fO 0 (-1)), (upd fA 0 (-1)), (upd fH 0 0), (upd fG 0 0), (fn_z fN 0 3), aS, qL, qR, qP)) :
    wpX_apply post (xst, xow, xin, xpa, xfi, xfr, xno, xsi, xan, xkn, xen, xco, xrm, xac, K, N, Z, D, Im, W, P, vS, pO, pX, pI, fS, fP, fI, fU, fR, fO, fA, fH, fG, fN, aS, qL, qR, qP) 0 s := by
  subst efr eno eco
  have en : (0 : Int32).toNatClampNeg = 0 := by decide
  have hin : vp_in 0 600 := vp_in_nI (n := 0) (by omega) (by omega)
  have k131 : ∀ t i, i + t = 3 → wX_apply_131 post 0 0 1 xst xow xin xpa xfi (nI 1) (-1) xsi xan xkn xen (nI 1) xrm xac (t + 1) (nI i) K N Z D Im W P vS pO pX pI fS (upd fP 0 (fS 0)) (upd fI 0 s) (upd fU 0 (-1)) (upd fR 0 0) (upd fO 0 (-1)) (upd fA 0 (-1)) (upd fH 0 0) (upd fG 0 0) (fn_z fN 0 i) aS qL qR qP := by
    intro t
    induction t with
    | zero =>
      intro i hi
      have hi' : i = 3 := by omega
      subst hi'
      unfold wX_apply_131
      exact br_t (nI_le (a := 3) (Nat.le_refl _) (by omega)) (br_f (by decide) hp)
    | succ t ih =>
      intro i hi
      unfold wX_apply_131
      rw [show (0 : Int32) * 3 + nI i = nI (0 * 3 + i) from xi_3 0 i, nI_clamp (show 0 * 3 + i < 2 ^ 31 by omega)]
      exact br_f (nI_ge (b := 3) (by omega) (by omega)) (br_f (by decide) ⟨vp_in_nI (by omega) (by omega), nm_e (nm_r (nI_1 i) (ih (i + 1) (by omega)))⟩)
  unfold wpX_apply
  dsimp only
  refine xr_counts (c := 0) rfl (by omega) ?_
  dsimp only
  refine br_f (by decide) (nm_e (br_t rfl ?_))
  unfold wX_apply_36
  refine br_f (by decide) ?_
  unfold wX_apply_75
  rw [en]
  exact ⟨hin, nm_e ⟨hin, nm_e ⟨hin, nm_e ⟨hin, nm_e ⟨hin, nm_e ⟨hin, nm_e ⟨hin, nm_e ⟨hin, nm_e ⟨_, k131 3 0 (by omega)⟩⟩⟩⟩⟩⟩⟩⟩⟩
/-! ===== X's run: giving ===== -/
theorem xr_give {xst xow xin xpa xfi xfr xno xsi xan xkn xen xco xrm xac : Int32} {K N Z D Im W P vS pO pX pI fS fP fI fU fR fO fA fH fG fN aS qL qR qP : Nat → Int32} {post : SX → Prop} {s : Int32} (hp : post (xst, xow, xin, xpa, xfi, xfr, xno, 1, s, xkn, xen, xco, xrm, xac, K, N, Z, D, Im, W, P, vS, pO, pX, pI, fS, fP, fI, fU, fR, fO, fA, fH, fG, fN, aS, qL, qR, qP)) : wpX_give post (xst, xow, xin, xpa, xfi, xfr, xno, xsi, xan, xkn, xen, xco, xrm, xac, K, N, Z, D, Im, W, P, vS, pO, pX, pI, fS, fP, fI, fU, fR, fO, fA, fH, fG, fN, aS, qL, qR, qP) s := by
  unfold wpX_give
  exact hp
theorem xr_runSlot {xst xow xin xpa xfi xfr xno xsi xan xkn xen xco xrm xac : Int32} {K N Z D Im W P vS pO pX pI fS fP fI fU fR fO fA fH fG fN aS qL qR qP : Nat → Int32} {post : Int32 → SX → Prop} {rm : Nat} (e : xrm = nI rm) (hp : post (nI (53 + rm)) (xst, xow, xin, xpa, xfi, xfr, xno, xsi, xan, xkn, xen, xco, (nI (rm + 1)), xac, K, N, Z, D, Im, W, P, vS, pO, pX, pI, fS, fP, fI, fU, fR, fO, fA, fH, fG, fN, aS, qL, qR, qP)) : wpX_runSlot post (xst, xow, xin, xpa, xfi, xfr, xno, xsi, xan, xkn, xen, xco, xrm, xac, K, N, Z, D, Im, W, P, vS, pO, pX, pI, fS, fP, fI, fU, fR, fO, fA, fH, fG, fN, aS, qL, qR, qP) := by
  subst e
  unfold wpX_runSlot
  dsimp only
  rw [xi_53, nI_1]
  exact nm_e (nm_e hp)
theorem xr_giveNumber {xst xow xin xpa xfi xfr xno xsi xan xkn xen xco xrm xac : Int32} {K N Z D Im W P vS pO pX pI fS fP fI fU fR fO fA fH fG fN aS qL qR qP : Nat → Int32} {post : SX → Prop} {rm : Nat} {x : Int32} (e : xrm = nI rm) (hrm : rm < 600)
    (hp : post (xst, xow, xin, xpa, xfi, xfr, xno, 1, (nI (53 + rm)), xkn, xen, xco, (nI (rm + 1)), xac, (upd K (53 + rm) 3), (upd N (53 + rm) x), (upd Z (53 + rm) 0), (upd D (53 + rm) 0), (upd Im (53 + rm) 1), (upd W (53 + rm) 1), P, vS, pO, pX, pI, fS, fP, fI, fU, fR, fO, fA, fH, fG, fN, aS, qL, qR, qP)) : wpX_giveNumber post (xst, xow, xin, xpa, xfi, xfr, xno, xsi, xan, xkn, xen, xco, xrm, xac, K, N, Z, D, Im, W, P, vS, pO, pX, pI, fS, fP, fI, fU, fR, fO, fA, fH, fG, fN, aS, qL, qR, qP) x := by
  unfold wpX_giveNumber
  dsimp only
  exact xr_runSlot e (xm_setPlain (by omega) (xr_give hp))
theorem xr_giveTruth {xst xow xin xpa xfi xfr xno xsi xan xkn xen xco xrm xac : Int32} {K N Z D Im W P vS pO pX pI fS fP fI fU fR fO fA fH fG fN aS qL qR qP : Nat → Int32} {post : SX → Prop} {b : Int32} (h0 : b = 0 → post (xst, xow, xin, xpa, xfi, xfr, xno, 1, 1, xkn, xen, xco, xrm, xac, K, N, Z, D, Im, W, P, vS, pO, pX, pI, fS, fP, fI, fU, fR, fO, fA, fH, fG, fN, aS, qL, qR, qP)) (h1 : ¬ b = 0 → post (xst, xow, xin, xpa, xfi, xfr, xno, 1, 2, xkn, xen, xco, xrm, xac, K, N, Z, D, Im, W, P, vS, pO, pX, pI, fS, fP, fI, fU, fR, fO, fA, fH, fG, fN, aS, qL, qR, qP)) : wpX_giveTruth post (xst, xow, xin, xpa, xfi, xfr, xno, xsi, xan, xkn, xen, xco, xrm, xac, K, N, Z, D, Im, W, P, vS, pO, pX, pI, fS, fP, fI, fU, fR, fO, fA, fH, fG, fN, aS, qL, qR, qP) b := by
  unfold wpX_giveTruth
  dsimp only
  refine br_c (fun z => ?_) (fun z => ?_)
  · unfold wX_giveTruth_10
    exact xr_give (h0 z)
  · unfold wX_giveTruth_10
    exact xr_give (h1 z)
theorem xr_isEmpty {xst xow xin xpa xfi xfr xno xsi xan xkn xen xco xrm xac : Int32} {K N Z D Im W P vS pO pX pI fS fP fI fU fR fO fA fH fG fN aS qL qR qP : Nat → Int32} {post : Int32 → Prop} {n κ : Nat} (hn : n < 653) (e : K n = nI κ) (hκ : κ ≤ 5) (h0 : 2 ≤ κ → post 0) (h1 : κ < 2 → post 1) : wpX_isEmpty post (xst, xow, xin, xpa, xfi, xfr, xno, xsi, xan, xkn, xen, xco, xrm, xac, K, N, Z, D, Im, W, P, vS, pO, pX, pI, fS, fP, fI, fU, fR, fO, fA, fH, fG, fN, aS, qL, qR, qP) (nI n) := by
  unfold wpX_isEmpty
  dsimp only
  rw [nI_clamp (show n < 2 ^ 31 by omega), e]
  exact ⟨vp_in_nI hn (by omega), pk_lt 1 κ (fun z => h0 z) (fun z => h1 (by omega))⟩
end
section
/-! ===== Y's run: counting, asking, telling ===== -/
theorem yr_count {yma ypo yhe yvm : Int32} {yin : Int64} {yfi yde yap yas yto : Int32} {yan : Int64} {yco yti yna yac yen yic : Int32} {o l kS d : Nat → Int32} {pl ys : Nat → Int64} {yk yn yp yf yo : Nat → Int32} {yi : Nat → Int64} {yw ya y1 y2 : Nat → Int32} {yK : Nat → Int64} {yW : Nat → Int32} {yL : Nat → Int64} {yq nm : Nat → Int32} {nv : Nat → Int64} {no : Nat → Int32} {yA lf rt : Nat → Int64} {iK iN : Nat → Int32} {post : Int32 → SY → Prop} {c : Nat} (ec : yco = nI c) (hc : c < 600) (hp : post 1 (yma, ypo, yhe, yvm, yin, yfi, yde, yap, yas, yto, yan, (nI (c + 1)), yti, yna, yac, yen, yic, o, l, kS, d, pl, ys, yk, yn, yp, yf, yo, yi, yw, ya, y1, y2, yK, yW, yL, yq, nm, nv, no, yA, lf, rt, iK, iN)) : wpY_count post (yma, ypo, yhe, yvm, yin, yfi, yde, yap, yas, yto, yan, yco, yti, yna, yac, yen, yic, o, l, kS, d, pl, ys, yk, yn, yp, yf, yo, yi, yw, ya, y1, y2, yK, yW, yL, yq, nm, nv, no, yA, lf, rt, iK, iN) := by
  subst ec
  unfold wpY_count
  dsimp only
  rw [nI_1]
  exact br_f (fun z => absurd ((nI_eq (b := 600) (by omega) (by omega)).mp z) (by omega)) (nm_e hp)
theorem yr_tired {yma ypo yhe yvm : Int32} {yin : Int64} {yfi yde yap yas yto : Int32} {yan : Int64} {yco yti yna yac yen yic : Int32} {o l kS d : Nat → Int32} {pl ys : Nat → Int64} {yk yn yp yf yo : Nat → Int32} {yi : Nat → Int64} {yw ya y1 y2 : Nat → Int32} {yK : Nat → Int64} {yW : Nat → Int32} {yL : Nat → Int64} {yq nm : Nat → Int32} {nv : Nat → Int64} {no : Nat → Int32} {yA lf rt : Nat → Int64} {iK iN : Nat → Int32} {post : Int32 → SY → Prop} (ec : yco = nI 600) (hp : post 0 (yma, ypo, yhe, yvm, yin, yfi, yde, yap, yas, yto, yan, yco, 1, yna, yac, yen, yic, o, l, kS, d, pl, ys, yk, yn, yp, yf, yo, yi, yw, ya, y1, y2, yK, yW, yL, yq, nm, nv, no, yA, lf, rt, iK, iN)) : wpY_count post (yma, ypo, yhe, yvm, yin, yfi, yde, yap, yas, yto, yan, yco, yti, yna, yac, yen, yic, o, l, kS, d, pl, ys, yk, yn, yp, yf, yo, yi, yw, ya, y1, y2, yK, yW, yL, yq, nm, nv, no, yA, lf, rt, iK, iN) := by
  subst ec
  unfold wpY_count
  dsimp only
  exact br_t rfl hp
theorem yr_askAgain {yma ypo yhe yvm : Int32} {yin : Int64} {yfi yde yap yas yto : Int32} {yan : Int64} {yco yti yna yac yen yic : Int32} {o l kS d : Nat → Int32} {pl ys : Nat → Int64} {yk yn yp yf yo : Nat → Int32} {yi : Nat → Int64} {yw ya y1 y2 : Nat → Int32} {yK : Nat → Int64} {yW : Nat → Int32} {yL : Nat → Int64} {yq nm : Nat → Int32} {nv : Nat → Int64} {no : Nat → Int32} {yA lf rt : Nat → Int64} {iK iN : Nat → Int32} {post : SY → Prop} {a : Nat} {g : Int32} (ea : yas = nI a) (ha : a < 602) (hp : post (yma, ypo, yhe, yvm, yin, yfi, yde, yap, (nI (a + 1)), yto, yan, yco, yti, yna, yac, yen, yic, o, l, kS, d, pl, ys, yk, yn, yp, yf, yo, yi, yw, ya, y1, y2, yK, yW, yL, (upd yq a g), nm, nv, no, yA, lf, rt, iK, iN)) : wpY_askAgain post (yma, ypo, yhe, yvm, yin, yfi, yde, yap, yas, yto, yan, yco, yti, yna, yac, yen, yic, o, l, kS, d, pl, ys, yk, yn, yp, yf, yo, yi, yw, ya, y1, y2, yK, yW, yL, yq, nm, nv, no, yA, lf, rt, iK, iN) g := by
  subst ea
  unfold wpY_askAgain
  dsimp only
  rw [nI_clamp (show a < 2 ^ 31 by omega), nI_1]
  exact ⟨vp_in_nI ha (by omega), nm_e (nm_e hp)⟩
theorem yr_ask {yma ypo yhe yvm : Int32} {yin : Int64} {yfi yde yap yas yto : Int32} {yan : Int64} {yco yti yna yac yen yic : Int32} {o l kS d : Nat → Int32} {pl ys : Nat → Int64} {yk yn yp yf yo : Nat → Int32} {yi : Nat → Int64} {yw ya y1 y2 : Nat → Int32} {yK : Nat → Int64} {yW : Nat → Int32} {yL : Nat → Int64} {yq nm : Nat → Int32} {nv : Nat → Int64} {no : Nat → Int32} {yA lf rt : Nat → Int64} {iK iN : Nat → Int32} {post : Int32 → SY → Prop} {n c a : Nat} {p w2 : Int32} {w : Int64} (en : yap = nI n) (ec : yco = nI c) (ea : yas = nI a) (hn : n < 600) (hc : c < 600) (ha : a < 602)
    (hp : post (nI n) (yma, ypo, yhe, yvm, yin, yfi, yde, (nI (n + 1)), (nI (a + 1)), yto, yan, (nI (c + 1)), yti, yna, yac, yen, yic, o, l, kS, d, pl, ys, yk, yn, yp, yf, (upd yo n p), (vp_updL yi n w), (upd yw n w2), (upd ya n 0), (upd y1 n (-1)), (upd y2 n (-1)), (vp_updL yK n 0), (upd yW n 0), yL, (upd yq a (nI n)), nm, nv, no, yA, lf, rt, iK, iN)) :
    wpY_ask post (yma, ypo, yhe, yvm, yin, yfi, yde, yap, yas, yto, yan, yco, yti, yna, yac, yen, yic, o, l, kS, d, pl, ys, yk, yn, yp, yf, yo, yi, yw, ya, y1, y2, yK, yW, yL, yq, nm, nv, no, yA, lf, rt, iK, iN) p w w2 := by
  subst en ea
  have e : (nI n).toNatClampNeg = n := nI_clamp (by omega)
  have h : vp_in (nI n) 601 := vp_in_nI (by omega) (by omega)
  unfold wpY_ask
  dsimp only
  refine yr_count ec hc (br_f (by decide) ?_)
  rw [e]
  refine ⟨h, nm_e ⟨h, nm_e ⟨h, nm_e ⟨h, nm_e ⟨h, nm_e ⟨h, nm_e ⟨h, nm_e ⟨h, nm_e (nm_r (nI_1 n) ?_)⟩⟩⟩⟩⟩⟩⟩⟩
  rw [nI_pred]
  refine yr_askAgain rfl ha ?_
  dsimp only
  rw [nI_pred]
  exact hp
theorem yr_ask_t {yma ypo yhe yvm : Int32} {yin : Int64} {yfi yde yap yas yto : Int32} {yan : Int64} {yco yti yna yac yen yic : Int32} {o l kS d : Nat → Int32} {pl ys : Nat → Int64} {yk yn yp yf yo : Nat → Int32} {yi : Nat → Int64} {yw ya y1 y2 : Nat → Int32} {yK : Nat → Int64} {yW : Nat → Int32} {yL : Nat → Int64} {yq nm : Nat → Int32} {nv : Nat → Int64} {no : Nat → Int32} {yA lf rt : Nat → Int64} {iK iN : Nat → Int32} {post : Int32 → SY → Prop} {p w2 : Int32} {w : Int64} (ec : yco = nI 600) (hp : post (-1) (yma, ypo, yhe, yvm, yin, yfi, yde, yap, yas, yto, yan, yco, 1, yna, yac, yen, yic, o, l, kS, d, pl, ys, yk, yn, yp, yf, yo, yi, yw, ya, y1, y2, yK, yW, yL, yq, nm, nv, no, yA, lf, rt, iK, iN)) : wpY_ask post (yma, ypo, yhe, yvm, yin, yfi, yde, yap, yas, yto, yan, yco, yti, yna, yac, yen, yic, o, l, kS, d, pl, ys, yk, yn, yp, yf, yo, yi, yw, ya, y1, y2, yK, yW, yL, yq, nm, nv, no, yA, lf, rt, iK, iN) p w w2 := by
  unfold wpY_ask
  dsimp only
  exact yr_tired ec (br_t rfl hp)
theorem yr_tell {yma ypo yhe yvm : Int32} {yin : Int64} {yfi yde yap yas yto : Int32} {yan : Int64} {yco yti yna yac yen yic : Int32} {o l kS d : Nat → Int32} {pl ys : Nat → Int64} {yk yn yp yf yo : Nat → Int32} {yi : Nat → Int64} {yw ya y1 y2 : Nat → Int32} {yK : Nat → Int64} {yW : Nat → Int32} {yL : Nat → Int64} {yq nm : Nat → Int32} {nv : Nat → Int64} {no : Nat → Int32} {yA lf rt : Nat → Int64} {iK iN : Nat → Int32} {post : SY → Prop} {a : Nat} {t : Int32} {w : Int64} (ea : yas = nI (a + 1)) (hp : post (yma, ypo, yhe, yvm, yin, yfi, yde, yap, (nI a), t, w, yco, yti, yna, yac, yen, yic, o, l, kS, d, pl, ys, yk, yn, yp, yf, yo, yi, yw, ya, y1, y2, yK, yW, yL, yq, nm, nv, no, yA, lf, rt, iK, iN)) : wpY_tell post (yma, ypo, yhe, yvm, yin, yfi, yde, yap, yas, yto, yan, yco, yti, yna, yac, yen, yic, o, l, kS, d, pl, ys, yk, yn, yp, yf, yo, yi, yw, ya, y1, y2, yK, yW, yL, yq, nm, nv, no, yA, lf, rt, iK, iN) t w := by
  subst ea
  unfold wpY_tell
  dsimp only
  rw [nI_pred]
  exact nm_e hp
theorem yr_part {yma ypo yhe yvm : Int32} {yin : Int64} {yfi yde yap yas yto : Int32} {yan : Int64} {yco yti yna yac yen yic : Int32} {o l kS d : Nat → Int32} {pl ys : Nat → Int64} {yk yn yp yf yo : Nat → Int32} {yi : Nat → Int64} {yw ya y1 y2 : Nat → Int32} {yK : Nat → Int64} {yW : Nat → Int32} {yL : Nat → Int64} {yq nm : Nat → Int32} {nv : Nat → Int64} {no : Nat → Int32} {yA lf rt : Nat → Int64} {iK iN : Nat → Int32} {post : Int32 → Prop} {g q r : Nat} (hg : g < 600) (eo : yo g = nI q) (hq : q < 40) (hr : r < 3) (hp : post (yp (q * 3 + r))) : wpY_part post (yma, ypo, yhe, yvm, yin, yfi, yde, yap, yas, yto, yan, yco, yti, yna, yac, yen, yic, o, l, kS, d, pl, ys, yk, yn, yp, yf, yo, yi, yw, ya, y1, y2, yK, yW, yL, yq, nm, nv, no, yA, lf, rt, iK, iN) (nI g) (nI r) := by
  unfold wpY_part
  dsimp only
  rw [nI_clamp (show g < 2 ^ 31 by omega), eo, yi_3, nI_clamp (show q * 3 + r < 2 ^ 31 by omega)]
  exact ⟨vp_in_nI (by omega) (by omega), vp_in_nI (by omega) (by omega), hp⟩
/-- the first filter within is applied -/
theorem yr_askFirst {yma ypo yhe yvm : Int32} {yin : Int64} {yfi yde yap yas yto : Int32} {yan : Int64} {yco yti yna yac yen yic : Int32} {o l kS d : Nat → Int32} {pl ys : Nat → Int64} {yk yn yp yf yo : Nat → Int32} {yi : Nat → Int64} {yw ya y1 y2 : Nat → Int32} {yK : Nat → Int64} {yW : Nat → Int32} {yL : Nat → Int64} {yq nm : Nat → Int32} {nv : Nat → Int64} {no : Nat → Int32} {yA lf rt : Nat → Int64} {iK iN : Nat → Int32} {post : SY → Prop} {n c a g q : Nat} (en : yap = nI n) (ec : yco = nI c) (ea : yas = nI a) (hn : n < 600) (hc : c < 600) (ha : a < 602) (hg : g < n) (eo : yo g = nI q) (hq : q < 40) (e1 : y1 g = -1)
    (hp : post (yma, ypo, yhe, yvm, yin, yfi, yde, (nI (n + 1)), (nI (a + 1)), yto, yan, (nI (c + 1)), yti, yna, yac, yen, yic, o, l, kS, d, pl, ys, yk, yn, yp, yf, (upd yo n (yp (q * 3 + 0))), (vp_updL yi n (yi g)), (upd yw n (yw g)), (upd ya n 0), (upd (upd y1 n (-1)) g (nI n)), (upd y2 n (-1)), (vp_updL yK n 0), (upd yW n 0), yL, (upd yq a (nI n)), nm, nv, no, yA, lf, rt, iK, iN)) :
    wpY_askFirst post (yma, ypo, yhe, yvm, yin, yfi, yde, yap, yas, yto, yan, yco, yti, yna, yac, yen, yic, o, l, kS, d, pl, ys, yk, yn, yp, yf, yo, yi, yw, ya, y1, y2, yK, yW, yL, yq, nm, nv, no, yA, lf, rt, iK, iN) (nI g) := by
  have e : (nI g).toNatClampNeg = g := nI_clamp (by omega)
  have h : vp_in (nI g) 601 := vp_in_nI (by omega) (by omega)
  unfold wpY_askFirst
  dsimp only
  rw [e, e1]
  refine ⟨h, br_f (by decide) (yr_part (r := 0) (by omega) eo hq (by omega) ⟨h, h, yr_ask en ec ea hn hc ha ?_⟩)⟩
  dsimp only
  exact ⟨h, nm_e hp⟩
theorem yr_askFirst_t {yma ypo yhe yvm : Int32} {yin : Int64} {yfi yde yap yas yto : Int32} {yan : Int64} {yco yti yna yac yen yic : Int32} {o l kS d : Nat → Int32} {pl ys : Nat → Int64} {yk yn yp yf yo : Nat → Int32} {yi : Nat → Int64} {yw ya y1 y2 : Nat → Int32} {yK : Nat → Int64} {yW : Nat → Int32} {yL : Nat → Int64} {yq nm : Nat → Int32} {nv : Nat → Int64} {no : Nat → Int32} {yA lf rt : Nat → Int64} {iK iN : Nat → Int32} {post : SY → Prop} {g q : Nat} (ec : yco = nI 600) (hg : g < 600) (eo : yo g = nI q) (hq : q < 40) (e1 : y1 g = -1)
    (hp : ∀ y1' : Nat → Int32, post (yma, ypo, yhe, yvm, yin, yfi, yde, yap, yas, yto, yan, yco, 1, yna, yac, yen, yic, o, l, kS, d, pl, ys, yk, yn, yp, yf, yo, yi, yw, ya, y1', y2, yK, yW, yL, yq, nm, nv, no, yA, lf, rt, iK, iN)) : wpY_askFirst post (yma, ypo, yhe, yvm, yin, yfi, yde, yap, yas, yto, yan, yco, yti, yna, yac, yen, yic, o, l, kS, d, pl, ys, yk, yn, yp, yf, yo, yi, yw, ya, y1, y2, yK, yW, yL, yq, nm, nv, no, yA, lf, rt, iK, iN) (nI g) := by
  have e : (nI g).toNatClampNeg = g := nI_clamp (by omega)
  have h : vp_in (nI g) 601 := vp_in_nI (by omega) (by omega)
  unfold wpY_askFirst
  dsimp only
  rw [e, e1]
  refine ⟨h, br_f (by decide) (yr_part (r := 0) (by omega) eo hq (by omega) ⟨h, h, yr_ask_t ec ?_⟩)⟩
  dsimp only
  exact ⟨h, nm_e (hp _)⟩
/-- the first filter within is asked again -/
theorem yr_askFirst_a {yma ypo yhe yvm : Int32} {yin : Int64} {yfi yde yap yas yto : Int32} {yan : Int64} {yco yti yna yac yen yic : Int32} {o l kS d : Nat → Int32} {pl ys : Nat → Int64} {yk yn yp yf yo : Nat → Int32} {yi : Nat → Int64} {yw ya y1 y2 : Nat → Int32} {yK : Nat → Int64} {yW : Nat → Int32} {yL : Nat → Int64} {yq nm : Nat → Int32} {nv : Nat → Int64} {no : Nat → Int32} {yA lf rt : Nat → Int64} {iK iN : Nat → Int32} {post : SY → Prop} {a g f : Nat} (ea : yas = nI a) (ha : a < 602) (hg : g < 600) (e1 : y1 g = nI f) (hf : f < 600)
    (hp : post (yma, ypo, yhe, yvm, yin, yfi, yde, yap, (nI (a + 1)), yto, yan, yco, yti, yna, yac, yen, yic, o, l, kS, d, pl, ys, yk, yn, yp, yf, yo, yi, yw, ya, y1, y2, yK, yW, yL, (upd yq a (nI f)), nm, nv, no, yA, lf, rt, iK, iN)) : wpY_askFirst post (yma, ypo, yhe, yvm, yin, yfi, yde, yap, yas, yto, yan, yco, yti, yna, yac, yen, yic, o, l, kS, d, pl, ys, yk, yn, yp, yf, yo, yi, yw, ya, y1, y2, yK, yW, yL, yq, nm, nv, no, yA, lf, rt, iK, iN) (nI g) := by
  have e : (nI g).toNatClampNeg = g := nI_clamp (by omega)
  have h : vp_in (nI g) 601 := vp_in_nI (by omega) (by omega)
  unfold wpY_askFirst
  dsimp only
  rw [e, e1]
  exact ⟨h, br_t (nI_pos' (by omega)) ⟨h, yr_askAgain ea ha hp⟩⟩
theorem yr_askSecond {yma ypo yhe yvm : Int32} {yin : Int64} {yfi yde yap yas yto : Int32} {yan : Int64} {yco yti yna yac yen yic : Int32} {o l kS d : Nat → Int32} {pl ys : Nat → Int64} {yk yn yp yf yo : Nat → Int32} {yi : Nat → Int64} {yw ya y1 y2 : Nat → Int32} {yK : Nat → Int64} {yW : Nat → Int32} {yL : Nat → Int64} {yq nm : Nat → Int32} {nv : Nat → Int64} {no : Nat → Int32} {yA lf rt : Nat → Int64} {iK iN : Nat → Int32} {post : SY → Prop} {n c a g q r : Nat} {w : Int64} {w2 : Int32} (en : yap = nI n) (ec : yco = nI c) (ea : yas = nI a) (hn : n < 600) (hc : c < 600) (ha : a < 602) (hg : g < n) (eo : yo g = nI q) (hq : q < 40) (hr : r < 3)
    (hp : post (yma, ypo, yhe, yvm, yin, yfi, yde, (nI (n + 1)), (nI (a + 1)), yto, yan, (nI (c + 1)), yti, yna, yac, yen, yic, o, l, kS, d, pl, ys, yk, yn, yp, yf, (upd yo n (yp (q * 3 + r))), (vp_updL yi n w), (upd yw n w2), (upd ya n 0), (upd y1 n (-1)), (upd (upd y2 n (-1)) g (nI n)), (vp_updL yK n 0), (upd yW n 0), yL, (upd yq a (nI n)), nm, nv, no, yA, lf, rt, iK, iN)) :
    wpY_askSecond post (yma, ypo, yhe, yvm, yin, yfi, yde, yap, yas, yto, yan, yco, yti, yna, yac, yen, yic, o, l, kS, d, pl, ys, yk, yn, yp, yf, yo, yi, yw, ya, y1, y2, yK, yW, yL, yq, nm, nv, no, yA, lf, rt, iK, iN) (nI g) (nI r) w w2 := by
  have e : (nI g).toNatClampNeg = g := nI_clamp (by omega)
  have h : vp_in (nI g) 601 := vp_in_nI (by omega) (by omega)
  unfold wpY_askSecond
  dsimp only
  rw [e]
  refine yr_part (by omega) eo hq hr (yr_ask en ec ea hn hc ha ?_)
  dsimp only
  exact ⟨h, nm_e hp⟩
theorem yr_askSecond_t {yma ypo yhe yvm : Int32} {yin : Int64} {yfi yde yap yas yto : Int32} {yan : Int64} {yco yti yna yac yen yic : Int32} {o l kS d : Nat → Int32} {pl ys : Nat → Int64} {yk yn yp yf yo : Nat → Int32} {yi : Nat → Int64} {yw ya y1 y2 : Nat → Int32} {yK : Nat → Int64} {yW : Nat → Int32} {yL : Nat → Int64} {yq nm : Nat → Int32} {nv : Nat → Int64} {no : Nat → Int32} {yA lf rt : Nat → Int64} {iK iN : Nat → Int32} {post : SY → Prop} {g q r : Nat} {w : Int64} {w2 : Int32} (ec : yco = nI 600) (hg : g < 600) (eo : yo g = nI q) (hq : q < 40) (hr : r < 3)
    (hp : ∀ y2' : Nat → Int32, post (yma, ypo, yhe, yvm, yin, yfi, yde, yap, yas, yto, yan, yco, 1, yna, yac, yen, yic, o, l, kS, d, pl, ys, yk, yn, yp, yf, yo, yi, yw, ya, y1, y2', yK, yW, yL, yq, nm, nv, no, yA, lf, rt, iK, iN)) : wpY_askSecond post (yma, ypo, yhe, yvm, yin, yfi, yde, yap, yas, yto, yan, yco, yti, yna, yac, yen, yic, o, l, kS, d, pl, ys, yk, yn, yp, yf, yo, yi, yw, ya, y1, y2, yK, yW, yL, yq, nm, nv, no, yA, lf, rt, iK, iN) (nI g) (nI r) w w2 := by
  have e : (nI g).toNatClampNeg = g := nI_clamp (by omega)
  have h : vp_in (nI g) 601 := vp_in_nI (by omega) (by omega)
  unfold wpY_askSecond
  dsimp only
  rw [e]
  refine yr_part (by omega) eo hq hr (yr_ask_t ec ?_)
  dsimp only
  exact ⟨h, nm_e (hp _)⟩
theorem yr_bind {yma ypo yhe yvm : Int32} {yin : Int64} {yfi yde yap yas yto : Int32} {yan : Int64} {yco yti yna yac yen yic : Int32} {o l kS d : Nat → Int32} {pl ys : Nat → Int64} {yk yn yp yf yo : Nat → Int32} {yi : Nat → Int64} {yw ya y1 y2 : Nat → Int32} {yK : Nat → Int64} {yW : Nat → Int32} {yL : Nat → Int64} {yq nm : Nat → Int32} {nv : Nat → Int64} {no : Nat → Int32} {yA lf rt : Nat → Int64} {iK iN : Nat → Int32} {post : Int32 → SY → Prop} {nd : Nat} {x w2 : Int32} {w : Int64} (en : yna = nI nd) (hn : nd < 700) (hp : post (nI nd) (yma, ypo, yhe, yvm, yin, yfi, yde, yap, yas, yto, yan, yco, yti, (nI (nd + 1)), yac, yen, yic, o, l, kS, d, pl, ys, yk, yn, yp, yf, yo, yi, yw, ya, y1, y2, yK, yW, yL, yq, (upd nm nd x), (vp_updL nv nd w), (upd no nd w2), yA, lf, rt, iK, iN)) : wpY_bind post (yma, ypo, yhe, yvm, yin, yfi, yde, yap, yas, yto, yan, yco, yti, yna, yac, yen, yic, o, l, kS, d, pl, ys, yk, yn, yp, yf, yo, yi, yw, ya, y1, y2, yK, yW, yL, yq, nm, nv, no, yA, lf, rt, iK, iN) x w w2 := by
  subst en
  have h : vp_in (nI nd) 700 := vp_in_nI hn (by omega)
  unfold wpY_bind
  dsimp only
  rw [nI_clamp (show nd < 2 ^ 31 by omega)]
  refine ⟨h, nm_e ⟨h, nm_e ⟨h, nm_e (nm_r (nI_1 nd) ?_)⟩⟩⟩
  rw [nI_pred]
  exact hp
theorem yr_meaning {yma ypo yhe yvm : Int32} {yin : Int64} {yfi yde yap yas yto : Int32} {yan : Int64} {yco yti yna yac yen yic : Int32} {o l kS d : Nat → Int32} {pl ys : Nat → Int64} {yk yn yp yf yo : Nat → Int32} {yi : Nat → Int64} {yw ya y1 y2 : Nat → Int32} {yK : Nat → Int64} {yW : Nat → Int32} {yL : Nat → Int64} {yq nm : Nat → Int32} {nv : Nat → Int64} {no : Nat → Int32} {yA lf rt : Nat → Int64} {iK iN : Nat → Int32} {post : Int64 → Prop} {nd x : Nat} {a : Int32} (h : en_ok nd no) (ha : en_at nd a) (hp : post (en_e nm no nv a x)) : wpY_meaning post (yma, ypo, yhe, yvm, yin, yfi, yde, yap, yas, yto, yan, yco, yti, yna, yac, yen, yic, o, l, kS, d, pl, ys, yk, yn, yp, yf, yo, yi, yw, ya, y1, y2, yK, yW, yL, yq, nm, nv, no, yA, lf, rt, iK, iN) (nI x) a := by
  have key : ∀ t b, (b = -1 ∧ 1 ≤ t ∨ ∃ j, b = nI j ∧ j < nd ∧ j + 2 ≤ t) → post (en_e nm no nv b x) → wY_meaning_2 post (nI x) yma ypo yhe yvm yin yfi yde yap yas yto yan yco yti yna yac yen yic o l kS d pl ys yk yn yp yf yo yi yw ya y1 y2 yK yW yL yq nm nv no yA lf rt iK iN t b := by
    intro t
    induction t with
    | zero =>
      intro b hb
      rcases hb with ⟨_, z⟩ | ⟨j, _, _, z⟩ <;> omega
    | succ t ih =>
      intro b hb hq
      unfold wY_meaning_2
      rcases hb with ⟨rfl, _⟩ | ⟨j, rfl, hj, hjt⟩
      · rw [en_e_m] at hq
        exact br_t (by decide) hq
      · have h7 := h.1
        have hpz := nI_pos (n := j) (by omega)
        have hin : vp_in (nI j) 700 := vp_in_nI (by omega) (by omega)
        unfold en_e at hq
        rw [nI_clamp (show j < 2 ^ 31 by omega), en_v, if_neg hpz, nI_clamp (show j < 2 ^ 31 by omega)] at hq
        rw [nI_clamp (show j < 2 ^ 31 by omega)]
        refine br_f hpz ⟨hin, br_c (fun e => ⟨hin, ?_⟩) (fun ne => ⟨hin, nm_e ?_⟩)⟩
        · rw [if_pos e] at hq
          exact hq
        · rw [if_neg ne] at hq
          have hat := h.2 j hj
          rcases hat with e | ⟨i, e, hi⟩
          · rw [e] at hq ⊢
            rw [en_v_m] at hq
            exact ih _ (Or.inl ⟨rfl, by omega⟩) (by rw [en_e_m]; exact hq)
          · rw [e] at hq ⊢
            refine ih _ (Or.inr ⟨i, rfl, by omega, by omega⟩) ?_
            unfold en_e
            rw [nI_clamp (show i < 2 ^ 31 by omega), en_v_f h i (by omega) (i + 1) j x (by omega) hi]
            exact hq
  unfold wpY_meaning
  dsimp only
  rcases ha with rfl | ⟨j, rfl, hj⟩
  · exact ⟨1, key 1 _ (Or.inl ⟨rfl, by omega⟩) hp⟩
  · exact ⟨j + 2, key (j + 2) _ (Or.inr ⟨j, rfl, hj, by omega⟩) hp⟩
end
section
/-! ===== Y compares ===== -/
theorem ym_compareKeys {yma ypo yhe yvm : Int32} {yin : Int64} {yfi yde yap yas yto : Int32} {yan : Int64} {yco yti yna yac yen yic : Int32} {o l kS d : Nat → Int32} {pl ys : Nat → Int64} {yk yn yp yf yo : Nat → Int32} {yi : Nat → Int64} {yw ya y1 y2 : Nat → Int32} {yK : Nat → Int64} {yW : Nat → Int32} {yL : Nat → Int64} {yq nm : Nat → Int32} {nv : Nat → Int64} {no : Nat → Int32} {yA lf rt : Nat → Int64} {iK iN : Nat → Int32} {post : Int32 → Prop} {a b : Nat} (ha : a < 256) (hb : b < 256) (hp : post (oo_k a b)) : wpY_compareKeys post (yma, ypo, yhe, yvm, yin, yfi, yde, yap, yas, yto, yan, yco, yti, yna, yac, yen, yic, o, l, kS, d, pl, ys, yk, yn, yp, yf, yo, yi, yw, ya, y1, y2, yK, yW, yL, yq, nm, nv, no, yA, lf, rt, iK, iN) (nI a) (nI b) := by
  unfold wpY_compareKeys
  dsimp only
  unfold oo_k at hp
  refine pk_eq a b (fun e => ?_) (fun ne => ?_)
  · rw [if_pos e] at hp
    exact hp
  rw [if_neg ne] at hp
  have h0 : a ^^^ b ≠ 0 := by
    intro e
    apply ne
    apply Nat.eq_of_testBit_eq
    intro i
    have h := Nat.testBit_xor a b i
    rw [e, Nat.zero_testBit] at h
    revert h
    cases a.testBit i <;> cases b.testBit i <;> simp
  have hx := oo_x1 ha hb
  obtain ⟨_, t2, t3⟩ := oo_t1 _ hx h0
  rw [oo_x2] at t3
  have t4 : ∀ i, i < oo_lb 8 (a ^^^ b) → (a / 2 ^ i + b / 2 ^ i) % 2 = 0 := fun i hi => by
    rw [← oo_x2]
    exact oo_t2 _ hx i hi
  generalize oo_lb 8 (a ^^^ b) = lb at *
  have key : ∀ r i, i + r = lb → wY_compareKeys_9 post (nI a) (nI b) yma ypo yhe yvm yin yfi yde yap yas yto yan yco yti yna yac yen yic o l kS d pl ys yk yn yp yf yo yi yw ya y1 y2 yK yW yL yq nm nv no yA lf rt iK iN (r + 1) (nI i) := by
    intro r
    induction r with
    | zero =>
      intro i hi
      have hi' : i = lb := by omega
      subst hi'
      unfold wY_compareKeys_9
      rw [kb_bit (by omega) (by omega), kb_bit (by omega) (by omega)]
      refine pk_eq (a / 2 ^ i % 2) (b / 2 ^ i % 2) (fun e => absurd e (by omega)) (fun _ => ?_)
      refine pk_eq (a / 2 ^ i % 2) 1 (fun e => ?_) (fun e => ?_)
      · rw [if_pos e] at hp
        unfold wY_compareKeys_42
        refine br_f (by decide) ?_
        unfold wY_compareKeys_58
        rw [pk_shrN (by omega) _ i (s_l i (by omega))]
        refine pk_eq (b / 2 ^ i) 0 (fun z => ?_) (fun z => ?_) (ha := Nat.lt_of_le_of_lt (Nat.div_le_self _ _) (by omega))
        · rw [if_pos z] at hp
          unfold wY_compareKeys_72
          exact br_f (by decide) hp
        · rw [if_neg z] at hp
          unfold wY_compareKeys_72
          exact br_t rfl hp
      · rw [if_neg e] at hp
        unfold wY_compareKeys_42
        refine br_t rfl ?_
        unfold wY_compareKeys_58
        rw [pk_shrN (by omega) _ i (s_l i (by omega))]
        refine pk_eq (a / 2 ^ i) 0 (fun z => ?_) (fun z => ?_) (ha := Nat.lt_of_le_of_lt (Nat.div_le_self _ _) (by omega))
        · rw [if_pos z] at hp
          unfold wY_compareKeys_72
          exact br_t rfl hp
        · rw [if_neg z] at hp
          unfold wY_compareKeys_72
          exact br_f (by decide) hp
    | succ r ih =>
      intro i hi
      unfold wY_compareKeys_9
      rw [kb_bit (by omega) (by omega), kb_bit (by omega) (by omega)]
      have := t4 i (by omega)
      refine pk_eq (a / 2 ^ i % 2) (b / 2 ^ i % 2) (fun _ => nm_r (nI_1 i) (ih (i + 1) (by omega))) (fun e => absurd e (by omega))
  exact ⟨_, key lb 0 (by omega)⟩
theorem ym_sign {yma ypo yhe yvm : Int32} {yin : Int64} {yfi yde yap yas yto : Int32} {yan : Int64} {yco yti yna yac yen yic : Int32} {o l kS d : Nat → Int32} {pl ys : Nat → Int64} {yk yn yp yf yo : Nat → Int32} {yi : Nat → Int64} {yw ya y1 y2 : Nat → Int32} {yK : Nat → Int64} {yW : Nat → Int32} {yL : Nat → Int64} {yq nm : Nat → Int32} {nv : Nat → Int64} {no : Nat → Int32} {yA lf rt : Nat → Int64} {iK iN : Nat → Int32} {post : Int32 → Prop} {a b : Int32} (hp : post (if b ≤ a then (if a ≤ b then 0 else 1) else -1)) : wpY_sign post (yma, ypo, yhe, yvm, yin, yfi, yde, yap, yas, yto, yan, yco, yti, yna, yac, yen, yic, o, l, kS, d, pl, ys, yk, yn, yp, yf, yo, yi, yw, ya, y1, y2, yK, yW, yL, yq, nm, nv, no, yA, lf, rt, iK, iN) a b := by
  unfold wpY_sign
  dsimp only
  refine br_c (fun h => br_c (fun h' => ?_) (fun h' => ?_)) (fun h => ?_)
  · rw [if_pos h, if_pos h'] at hp; exact hp
  · rw [if_pos h, if_neg h'] at hp; exact hp
  · rw [if_neg h] at hp; exact hp
/-- the head of a pair, as Y compares it -/
theorem yc_129e {yma ypo yhe yvm : Int32} {yin : Int64} {yfi yde yap yas yto : Int32} {yan : Int64} {yco yti yna yac yen yic : Int32} {o l kS d : Nat → Int32} {pl ys : Nat → Int64} {yk yn yp yf yo : Nat → Int32} {yi : Nat → Int64} {yw ya y1 y2 : Nat → Int32} {yK : Nat → Int64} {yW : Nat → Int32} {yL : Nat → Int64} {yq nm : Nat → Int32} {nv : Nat → Int64} {no : Nat → Int32} {yA lf rt : Nat → Int64} {iK iN : Nat → Int32} {post : Int32 → SY → Prop} {n : Nat} {x5 : Int32} {a b : Int64} {x10 r : Int32} (hr : ¬ r = 0) (hp : post r (yma, ypo, yhe, yvm, yin, yfi, yde, yap, yas, yto, yan, yco, yti, yna, yac, yen, yic, o, l, kS, d, pl, ys, yk, yn, yp, yf, yo, yi, yw, ya, y1, y2, yK, yW, yL, yq, nm, nv, no, yA, lf, rt, iK, iN)) : wY_compare_129 post (wY_compare_17 post yma ypo yhe yvm yin yfi yde yap yas yto yan yco yti yna yac yen yic n) x5 a b x10 r yma ypo yhe yvm yin yfi yde yap yas yto yan yco yti yna yac yen yic o l kS d pl ys yk yn yp yf yo yi yw ya y1 y2 yK yW yL yq nm nv no yA lf rt iK iN := by
  unfold wY_compare_129
  exact br_f hr hp
theorem yc_head {yma ypo yhe yvm : Int32} {yin : Int64} {yfi yde yap yas yto : Int32} {yan : Int64} {yco yti yna yac yen yic : Int32} {o l kS d : Nat → Int32} {pl ys : Nat → Int64} {yk yn yp yf yo : Nat → Int32} {yi : Nat → Int64} {yw ya y1 y2 : Nat → Int32} {yK : Nat → Int64} {yW : Nat → Int32} {yL : Nat → Int64} {yq nm : Nat → Int32} {nv : Nat → Int64} {no : Nat → Int32} {yA lf rt : Nat → Int64} {iK iN : Nat → Int32} {V : Nat → Prop} {K N Z D Im W P : Nat → Int32} {mk pd n M s t : Nat} {post : Int32 → SY → Prop} {a b : Int64} (hx : vv_ox V K N Z D Im W P) (hy : vv_cy mk pd o l pl) (hs : s < 653) (ht : t < 653) (Rs : vv_R V K N Z D P mk o l kS d pl (nI s) a) (Rt : vv_R V K N Z D P mk o l kS d pl (nI t) b)
    (hM : M < 300) (el : lf M = a) (er : rt M = b)
    (h : wY_compare_129 post (wY_compare_17 post yma ypo yhe yvm yin yfi yde yap yas yto yan yco yti yna yac yen yic n) (nI M) a b (K s) (oo_h K N s t) yma ypo yhe yvm yin yfi yde yap yas yto yan yco yti yna yac yen yic o l kS d pl ys yk yn yp yf yo yi yw ya y1 y2 yK yW yL yq nm nv no yA lf rt iK iN) : wY_compare_17 post yma ypo yhe yvm yin yfi yde yap yas yto yan yco yti yna yac yen yic (n + 1) (nI (M + 1)) o l kS d pl ys yk yn yp yf yo yi yw ya y1 y2 yK yW yL yq nm nv no yA lf rt iK iN := by
  obtain ⟨s1, κ, x, c1, c2, c3, c4, c5, c6, c7⟩ := vv_R_is hx hy Rs
  obtain ⟨t1, κ', x', d1, d2, d3, d4, d5, d6, d7⟩ := vv_R_is hx hy Rt
  have es : s1 = s := (nI_eq (by omega) (by omega)).mp c1.symm
  have et : t1 = t := (nI_eq (by omega) (by omega)).mp d1.symm
  subst es et
  have iM : vp_in (nI M) 300 := vp_in_nI hM (by omega)
  unfold wY_compare_17
  refine br_f (nI_nle (by omega) (by omega)) (nm_r (pk_m1 M) ?_)
  rw [nI_clamp (show M < 2 ^ 31 by omega), el, er]
  refine ⟨iM, nm_e ⟨iM, nm_e ?_⟩⟩
  rw [c5, d5] at h ⊢
  refine ym_sort (by omega) (ym_sort (by omega) (ym_sign ?_))
  unfold oo_h at h
  rw [c6, d6] at h
  by_cases e : κ = κ'
  · subst e
    rw [if_pos (Int32.le_refl _), if_pos (Int32.le_refl _)]
    rw [if_pos rfl] at h
    refine br_t rfl (pk_eq κ 3 (fun k3 => ?_) (fun k3 => ?_))
    · subst k3
      have n1 : N s1 = x := by rcases c7 with ⟨_, w, _⟩ | ⟨w, -⟩; exact w; omega
      have n2 : N t1 = x' := by rcases d7 with ⟨_, w, _⟩ | ⟨w, -⟩; exact w; omega
      rw [if_pos (show nI 3 = 3 from rfl), n1, n2] at h
      rw [yy_xt, yy_xt]
      refine ym_sign ?_
      generalize (if x' ≤ x then (if x ≤ x' then (0 : Int32) else 1) else -1) = r at *
      unfold wY_compare_91
      refine br_c (fun z => br_f (by decide) ?_) (fun z => ?_)
      · unfold wY_compare_127
        exact h
      · unfold wY_compare_127
        exact h
    · have n3 : ¬ nI κ = (3 : Int32) := fun w => k3 ((nI_eq (b := 3) (by omega) (by omega)).mp w)
      rw [if_neg n3] at h
      unfold wY_compare_89 wY_compare_91
      refine br_t rfl (pk_eq κ 5 (fun k5 => ?_) (fun k5 => ?_))
      · subst k5
        rw [if_pos (show nI 5 = 5 from rfl)] at h
        rcases c7 with ⟨w, -⟩ | ⟨_, j, aa, bb, j1, j2, j3, j4, j5, j6, j7, -⟩
        · omega
        rcases d7 with ⟨w, -⟩ | ⟨_, j', aa', bb', j1', j2', j3', j4', j5', j6', j7', -⟩
        · omega
        obtain ⟨κ1, _, q2, _, q4⟩ := oo_kind hx c3
        obtain ⟨κ2, _, q2', _, q4'⟩ := oo_kind hx d3
        obtain ⟨m, m1, m2⟩ := q4 (rl_not45 q2 c6 (by omega) (by omega))
        obtain ⟨m', m1', m2'⟩ := q4' (rl_not45 q2' d6 (by omega) (by omega))
        rw [m2, m2', nI_clamp (by omega), nI_clamp (by omega)] at h
        have h7 := hy.1
        rw [yy_xt, yy_xt, j2, j2', nI_clamp (show j < 2 ^ 31 by omega), nI_clamp (show j' < 2 ^ 31 by omega), ← j7, ← j7', m2, m2']
        rw [j2, j2'] at h
        exact ⟨vp_in_nI (by omega) (by omega), vp_in_nI (by omega) (by omega), ym_compareKeys m1 m1' h⟩
      · have n5 : ¬ nI κ = (5 : Int32) := fun w => k5 ((nI_eq (b := 5) (by omega) (by omega)).mp w)
        rw [if_neg n5] at h
        unfold wY_compare_127
        exact h
  · rw [if_neg (fun w => e ((nI_eq (by omega) (by omega)).mp w))] at h
    have fin : ∀ r : Int32, ¬ r = 0 → wY_compare_129 post (wY_compare_17 post yma ypo yhe yvm yin yfi yde yap yas yto yan yco yti yna yac yen yic n) (nI M) (yy_t κ x) (yy_t κ' x') (nI κ) r yma ypo yhe yvm yin yfi yde yap yas yto yan yco yti yna yac yen yic o l kS d pl ys yk yn yp yf yo yi yw ya y1 y2 yK yW yL yq nm nv no yA lf rt iK iN → wY_compare_89 post (wY_compare_17 post yma ypo yhe yvm yin yfi yde yap yas yto yan yco yti yna yac yen yic n) (nI M) (yy_t κ x) (yy_t κ' x') (nI κ) r yma ypo yhe yvm yin yfi yde yap yas yto yan yco yti yna yac yen yic o l kS d pl ys yk yn yp yf yo yi yw ya y1 y2 yK yW yL yq nm nv no yA lf rt iK iN := by
      intro r hr h
      unfold wY_compare_89 wY_compare_91
      refine br_f hr ?_
      unfold wY_compare_127
      exact h
    by_cases le : κ' ≤ κ
    · rw [if_pos (nI_le le (by omega))] at h ⊢
      rw [if_neg (nI_ge (by omega) (by omega))]
      exact br_f (by decide) (fin 1 (by decide) h)
    · rw [if_neg (nI_ge (by omega) (by omega))] at h ⊢
      exact br_f (by decide) (fin (-1) (by decide) h)
end
section
theorem yc_m1 (c : Nat) : nI c + (-1) = nI c - 1 := (Int32.sub_eq_add_neg (nI c) 1).symm
theorem yc_0 : nI 0 - 1 < 0 := by decide
theorem yc_push {yma ypo yhe yvm : Int32} {yin : Int64} {yfi yde yap yas yto : Int32} {yan : Int64} {yco yti yna yac yen yic : Int32} {o l kS d : Nat → Int32} {pl ys : Nat → Int64} {yk yn yp yf yo : Nat → Int32} {yi : Nat → Int64} {yw ya y1 y2 : Nat → Int32} {yK : Nat → Int64} {yW : Nat → Int32} {yL : Nat → Int64} {yq nm : Nat → Int32} {nv : Nat → Int64} {no : Nat → Int32} {yA lf rt : Nat → Int64} {iK iN : Nat → Int32} {post : Int32 → SY → Prop} {J : Int32 → (Nat → Int32) → (Nat → Int32) → (Nat → Int32) → (Nat → Int32) → (Nat → Int64) → (Nat → Int64) → (Nat → Int32) → (Nat → Int32) → (Nat → Int32) → (Nat → Int32) → (Nat → Int32) → (Nat → Int64) → (Nat → Int32) → (Nat → Int32) → (Nat → Int32) → (Nat → Int32) → (Nat → Int64) → (Nat → Int32) → (Nat → Int64) → (Nat → Int32) → (Nat → Int32) → (Nat → Int64) → (Nat → Int32) → (Nat → Int64) → (Nat → Int64) → (Nat → Int64) → (Nat → Int32) → (Nat → Int32) → Prop} {M κ j j' oa la ob lb : Nat} (hM : M + 11 < 300) (hκ : 4 ≤ κ) (hκ5 : κ ≤ 5) (hj : j < 760) (hj' : j' < 760) (eo : o j = nI oa) (el : l j = nI la) (eo' : o j' = nI ob) (el' : l j' = nI lb) (hla : la ≤ 10) (hlb : lb ≤ 10) (ha : oa + la ≤ 8200) (hb : ob + lb ≤ 8200)
    (hp : ∀ lf' rt' : Nat → Int64, (∀ i, i < M → lf' i = lf i ∧ rt' i = rt i) → lf' M = yy_t 3 (nI la) → rt' M = yy_t 3 (nI lb) → (∀ i, i < min la lb → lf' (M + min la lb - i) = pl (oa + i) ∧ rt' (M + min la lb - i) = pl (ob + i)) → J (nI (M + 1 + min la lb)) o l kS d pl ys yk yn yp yf yo yi yw ya y1 y2 yK yW yL yq nm nv no yA lf' rt' iK iN) :
    wY_compare_129 post J (nI M) (yy_t κ (nI j)) (yy_t κ (nI j')) (nI κ) 0 yma ypo yhe yvm yin yfi yde yap yas yto yan yco yti yna yac yen yic o l kS d pl ys yk yn yp yf yo yi yw ya y1 y2 yK yW yL yq nm nv no yA lf rt iK iN := by
  have iM : vp_in (nI M) 300 := vp_in_nI (by omega) (by omega)
  have eM : (nI M).toNatClampNeg = M := nI_clamp (by omega)
  have k222 : ∀ c (lf' rt' : Nat → Int64), c ≤ min la lb → (∀ i, i < M → lf' i = lf i ∧ rt' i = rt i) → lf' M = yy_t 3 (nI la) → rt' M = yy_t 3 (nI lb) → (∀ i, c ≤ i → i < min la lb → lf' (M + min la lb - i) = pl (oa + i) ∧ rt' (M + min la lb - i) = pl (ob + i)) →
      wY_compare_222 post J (yy_t κ (nI j)) (yy_t κ (nI j')) yma ypo yhe yvm yin yfi yde yap yas yto yan yco yti yna yac yen yic (c + 1) (nI (M + 1 + (min la lb - c))) (nI c - 1) o l kS d pl ys yk yn yp yf yo yi yw ya y1 y2 yK yW yL yq nm nv no yA lf' rt' iK iN := by
    intro c
    induction c with
    | zero =>
      intro lf' rt' hc h1 h2 h3 h4
      unfold wY_compare_222
      exact br_t yc_0 (hp lf' rt' h1 h2 h3 (fun i hi => h4 i (by omega) hi))
    | succ c ih =>
      intro lf' rt' hc h1 h2 h3 h4
      unfold wY_compare_222
      rw [nI_pred, nI_clamp (show M + 1 + (min la lb - (c + 1)) < 2 ^ 31 by omega)]
      have ix : vp_in (nI (M + 1 + (min la lb - (c + 1)))) 300 := vp_in_nI (by omega) (by omega)
      refine br_f (nI_pos (by omega)) (ym_place hj eo (by omega) ⟨ix, nm_e (ym_place hj' eo' (by omega) ⟨ix, nm_e (nm_r (nI_1 _) (nm_r (yc_m1 c) ?_))⟩)⟩)
      have hh := ih (vp_updL lf' (M + 1 + (min la lb - (c + 1))) (pl (oa + c))) (vp_updL rt' (M + 1 + (min la lb - (c + 1))) (pl (ob + c))) (by omega) (fun i hi => ⟨(pk_uLn (by omega)).trans (h1 i hi).1, (pk_uLn (by omega)).trans (h1 i hi).2⟩) ((pk_uLn (by omega)).trans h2) ((pk_uLn (by omega)).trans h3) (fun i hi hi' => ?_)
      · rw [show M + 1 + (min la lb - c) = M + 1 + (min la lb - (c + 1)) + 1 by omega] at hh
        exact hh
      · by_cases e : i = c
        · subst e
          rw [show M + min la lb - i = M + 1 + (min la lb - (i + 1)) by omega, pk_uLs, pk_uLs]
          exact ⟨rfl, rfl⟩
        · rw [pk_uLn (by omega), pk_uLn (by omega)]
          exact h4 i (by omega) hi'
  have fin : ∀ c, c = min la lb → wY_compare_222 post J (yy_t κ (nI j)) (yy_t κ (nI j')) yma ypo yhe yvm yin yfi yde yap yas yto yan yco yti yna yac yen yic (c + 1) (nI (M + 1)) (nI c - 1) o l kS d pl ys yk yn yp yf yo yi yw ya y1 y2 yK yW yL yq nm nv no yA (vp_updL lf M (yy_t 3 (nI la))) (vp_updL rt M (yy_t 3 (nI lb))) iK iN := by
    intro c hc
    have := k222 c (vp_updL lf M (yy_t 3 (nI la))) (vp_updL rt M (yy_t 3 (nI lb))) (by omega) (fun i hi => ⟨pk_uLn (by omega), pk_uLn (by omega)⟩) pk_uLs pk_uLs (fun i hi hi' => absurd hi' (by omega))
    rw [show M + 1 + (min la lb - c) = M + 1 by omega] at this
    exact this
  unfold wY_compare_129
  rw [eM]
  refine br_t rfl (br_f (nI_ge (a := 3) (by omega) (by omega)) ?_)
  refine ym_lengthOf hj ?_
  rw [el]
  refine ym_thing (κ := 3) (by omega) ⟨iM, nm_e (ym_lengthOf hj' ?_)⟩
  rw [el']
  refine ym_thing (κ := 3) (by omega) ⟨iM, nm_e (nm_r (nI_1 M) (ym_lengthOf hj (ym_lengthOf hj' ?_)))⟩
  rw [el, el']
  refine pk_le lb la (fun z => ym_lengthOf hj' ?_) (fun z => ym_lengthOf hj ?_)
  · rw [el']
    exact nm_e ⟨_, fin lb (by omega)⟩
  · rw [el]
    exact nm_e ⟨_, fin la (by omega)⟩
theorem oo_sg_i {a b : Nat} (ha : a ≤ 10) (hb : b ≤ 10) : (if nI b ≤ nI a then (if nI a ≤ nI b then (0 : Int32) else 1) else -1) = oo_sg a b := by
  unfold oo_sg
  rcases Nat.lt_trichotomy a b with z | z | z
  · rw [if_neg (nI_ge z (by omega)), if_pos z]
  · subst z
    rw [if_pos (Int32.le_refl _), if_pos (Int32.le_refl _), if_neg (by omega), if_neg (by omega)]
  · rw [if_pos (nI_le (by omega) (by omega)), if_neg (nI_ge z (by omega)), if_neg (by omega), if_pos z]
theorem yc_len {yma ypo yhe yvm : Int32} {yin : Int64} {yfi yde yap yas yto : Int32} {yan : Int64} {yco yti yna yac yen yic : Int32} {o l kS d : Nat → Int32} {pl ys : Nat → Int64} {yk yn yp yf yo : Nat → Int32} {yi : Nat → Int64} {yw ya y1 y2 : Nat → Int32} {yK : Nat → Int64} {yW : Nat → Int32} {yL : Nat → Int64} {yq nm : Nat → Int32} {nv : Nat → Int64} {no : Nat → Int32} {yA lf rt : Nat → Int64} {iK iN : Nat → Int32} {post : Int32 → SY → Prop} {n M la lb : Nat} (hM : M < 300) (hla : la ≤ 10) (hlb : lb ≤ 10) (e1 : lf M = yy_t 3 (nI la)) (e2 : rt M = yy_t 3 (nI lb))
    (h1 : ¬ oo_sg la lb = 0 → post (oo_sg la lb) (yma, ypo, yhe, yvm, yin, yfi, yde, yap, yas, yto, yan, yco, yti, yna, yac, yen, yic, o, l, kS, d, pl, ys, yk, yn, yp, yf, yo, yi, yw, ya, y1, y2, yK, yW, yL, yq, nm, nv, no, yA, lf, rt, iK, iN)) (h0 : oo_sg la lb = 0 → wY_compare_17 post yma ypo yhe yvm yin yfi yde yap yas yto yan yco yti yna yac yen yic n (nI M) o l kS d pl ys yk yn yp yf yo yi yw ya y1 y2 yK yW yL yq nm nv no yA lf rt iK iN) : wY_compare_17 post yma ypo yhe yvm yin yfi yde yap yas yto yan yco yti yna yac yen yic (n + 1) (nI (M + 1)) o l kS d pl ys yk yn yp yf yo yi yw ya y1 y2 yK yW yL yq nm nv no yA lf rt iK iN := by
  have iM : vp_in (nI M) 300 := vp_in_nI hM (by omega)
  unfold wY_compare_17
  refine br_f (nI_nle (by omega) (by omega)) (nm_r (pk_m1 M) ?_)
  rw [nI_clamp (show M < 2 ^ 31 by omega), e1, e2]
  refine ⟨iM, nm_e ⟨iM, nm_e (ym_sort (by omega) (ym_sort (by omega) (ym_sign ?_)))⟩⟩
  rw [if_pos (Int32.le_refl _), if_pos (Int32.le_refl _)]
  refine br_t rfl (br_t rfl ?_)
  rw [yy_xt, yy_xt]
  refine ym_sign ?_
  rw [oo_sg_i hla hlb]
  have fin : wY_compare_129 post (wY_compare_17 post yma ypo yhe yvm yin yfi yde yap yas yto yan yco yti yna yac yen yic n) (nI M) (yy_t 3 (nI la)) (yy_t 3 (nI lb)) (nI 3) (oo_sg la lb) yma ypo yhe yvm yin yfi yde yap yas yto yan yco yti yna yac yen yic o l kS d pl ys yk yn yp yf yo yi yw ya y1 y2 yK yW yL yq nm nv no yA lf rt iK iN := by
    unfold wY_compare_129
    exact br_c (fun z => br_t (Int32.le_refl _) (h0 z)) (fun z => h1 z)
  unfold wY_compare_91
  refine br_c (fun z => br_f (by decide) ?_) (fun z => ?_)
  · unfold wY_compare_127
    exact fin
  · unfold wY_compare_127
    exact fin
end
section
def yc_F : Nat → Nat
  | 0 => 1
  | d + 1 => 2 + 10 * yc_F d
theorem oo_h_k {K N : Nat → Int32} {s t : Nat} (h : oo_h K N s t = 0) : K s = K t := by
  unfold oo_h at h
  by_cases e : K s = K t
  · exact e
  · rw [if_neg e] at h
    by_cases le : K t ≤ K s
    · rw [if_pos le] at h; exact absurd h (by decide)
    · rw [if_neg le] at h; exact absurd h (by decide)
theorem yc_val {yma ypo yhe yvm : Int32} {yin : Int64} {yfi yde yap yas yto : Int32} {yan : Int64} {yco yti yna yac yen yic : Int32} {o l kS d : Nat → Int32} {pl ys : Nat → Int64} {yk yn yp yf yo : Nat → Int32} {yi : Nat → Int64} {yw ya y1 y2 : Nat → Int32} {yK : Nat → Int64} {yW : Nat → Int32} {yL : Nat → Int64} {yq nm : Nat → Int32} {nv : Nat → Int64} {no : Nat → Int32} {yA lf rt : Nat → Int64} {iK iN : Nat → Int32} {V : Nat → Prop} {K N Z D Im W P : Nat → Int32} {mk pd : Nat} {post : Int32 → SY → Prop} (hx : vv_ox V K N Z D Im W P) (hy : vv_cy mk pd o l pl) :
    ∀ dd s t (a b : Int64) M n (lf rt : Nat → Int64), s < 653 → t < 653 → vv_R V K N Z D P mk o l kS d pl (nI s) a → vv_R V K N Z D P mk o l kS d pl (nI t) b → (∃ e, D s = nI e ∧ e ≤ dd) → (∃ e, D t = nI e ∧ e ≤ dd) → M + 12 * dd < 280 → lf M = a → rt M = b →
    (¬ oo_c (oo_h K N) Z P dd s t = 0 → ∀ lf' rt' : Nat → Int64, post (oo_c (oo_h K N) Z P dd s t) (yma, ypo, yhe, yvm, yin, yfi, yde, yap, yas, yto, yan, yco, yti, yna, yac, yen, yic, o, l, kS, d, pl, ys, yk, yn, yp, yf, yo, yi, yw, ya, y1, y2, yK, yW, yL, yq, nm, nv, no, yA, lf', rt', iK, iN)) →
    (oo_c (oo_h K N) Z P dd s t = 0 → ∀ lf' rt' : Nat → Int64, (∀ i, i < M → lf' i = lf i ∧ rt' i = rt i) → ∀ n', n ≤ n' → wY_compare_17 post yma ypo yhe yvm yin yfi yde yap yas yto yan yco yti yna yac yen yic n' (nI M) o l kS d pl ys yk yn yp yf yo yi yw ya y1 y2 yK yW yL yq nm nv no yA lf' rt' iK iN) →
    ∀ n', n + yc_F dd ≤ n' → wY_compare_17 post yma ypo yhe yvm yin yfi yde yap yas yto yan yco yti yna yac yen yic n' (nI (M + 1)) o l kS d pl ys yk yn yp yf yo yi yw ya y1 y2 yK yW yL yq nm nv no yA lf rt iK iN := by
  intro dd
  induction dd with
  | zero =>
    intro s t a b M n lf rt hs ht Rs Rt hDs hDt hM el er hdone hcont n' hn'
    obtain ⟨n1, rfl⟩ : ∃ n1, n' = n1 + 1 := ⟨n' - 1, by unfold yc_F at hn'; omega⟩
    refine yc_head hx hy hs ht Rs Rt (by omega) el er ?_
    by_cases hh : oo_h K N s t = 0
    · obtain ⟨s1, κ, x, c1, c2, c3, c4, c5, c6, c7⟩ := vv_R_is hx hy Rs
      have es : s1 = s := (nI_eq (by omega) (by omega)).mp c1.symm
      subst es
      have k3 : κ < 4 := by
        obtain ⟨e, x1, x2⟩ := hDs
        obtain ⟨_, ⟨k1, a1, a2, -⟩ | ⟨k1, z, e2, a1, a2, a3, a4, a5, a6, -⟩⟩ := hx s1 c3
        · have := rl_not45 c6 a2 (by omega) (by omega)
          omega
        · have := (nI_eq (by omega) (by omega)).mp (x1.symm.trans a5)
          omega
      rw [hh, c6]
      unfold wY_compare_129
      refine br_t rfl (br_t (nI_le (b := 3) (by omega) (by omega)) (hcont hh lf rt (fun _ _ => ⟨rfl, rfl⟩) n1 (by unfold yc_F at hn'; omega)))
    · exact yc_129e hh (hdone hh lf rt)
  | succ dd ihd =>
    intro s t a b M n lf rt hs ht Rs Rt hDs hDt hM el er hdone hcont n' hn'
    have hF : yc_F (dd + 1) = 2 + 10 * yc_F dd := rfl
    obtain ⟨n1, rfl⟩ : ∃ n1, n' = n1 + 1 := ⟨n' - 1, by omega⟩
    refine yc_head hx hy hs ht Rs Rt (by omega) el er ?_
    by_cases hh : oo_h K N s t = 0
    case neg =>
      rw [oo_c_h hh] at hdone
      exact yc_129e hh (hdone hh lf rt)
    have hc0 := oo_c_0 (K := K) (N := N) (Z := Z) (P := P) (d := dd + 1) hh (fun z => absurd z (by omega))
    obtain ⟨s1, κ, x, c1, c2, c3, c4, c5, c6, c7⟩ := vv_R_is hx hy Rs
    obtain ⟨t1, κ', x', d1, d2, d3, d4, d5, d6, d7⟩ := vv_R_is hx hy Rt
    have es : s1 = s := (nI_eq (by omega) (by omega)).mp c1.symm
    have et : t1 = t := (nI_eq (by omega) (by omega)).mp d1.symm
    subst es et
    have kk : κ = κ' := (nI_eq (by omega) (by omega)).mp (c6.symm.trans ((oo_h_k hh).trans d6))
    subst kk
    rcases c7 with ⟨w1, w2, w3, w4⟩ | ⟨w1, j, oa, la, j1, j2, j3, j4, j5, j6, j7, j8, j9, j10⟩
    · rcases d7 with ⟨v1, v2, v3, v4⟩ | ⟨v1, -⟩
      case inr => omega
      have h0 : oo_c (oo_h K N) Z P (dd + 1) s1 t1 = 0 := by
        have z0 : (0 : Int32).toNatClampNeg = 0 := by decide
        rw [hc0, oo_r_e (by rw [w3, v3, z0]; omega), w3, v3, oo_sg_r]
      rw [hh, c6]
      unfold wY_compare_129
      exact br_t rfl (br_t (nI_le (b := 3) (by omega) (by omega)) (hcont h0 lf rt (fun _ _ => ⟨rfl, rfl⟩) n1 (by omega)))
    rcases d7 with ⟨v1, -⟩ | ⟨v1, j', ob, lb, i1, i2, i3, i4, i5, i6, i7, i8, i9, i10⟩
    · omega
    have h7 := hy.1
    have h8 := hy.2.1
    rw [hh, c6, c5, d5, j2, i2]
    refine yc_push (by omega) w1 c4 (by omega) (by omega) j3 j4 i3 i4 j5 i5 (by omega) (by omega) (fun lf1 rt1 g1 g2 g3 g4 => ?_)
    have zs : (Z s1).toNatClampNeg = la := by rw [j8, nI_clamp (by omega)]
    have zt : (Z t1).toNatClampNeg = lb := by rw [i8, nI_clamp (by omega)]
    have loop : ∀ c q (lf2 rt2 : Nat → Int64), q + c = min la lb → (∀ i, i < M → lf2 i = lf i ∧ rt2 i = rt i) → lf2 M = yy_t 3 (nI la) → rt2 M = yy_t 3 (nI lb) → (∀ i, q ≤ i → i < min la lb → lf2 (M + min la lb - i) = pl (oa + i) ∧ rt2 (M + min la lb - i) = pl (ob + i)) →
        oo_c (oo_h K N) Z P (dd + 1) s1 t1 = oo_r K N Z P (dd + 1) s1 t1 q → ∀ n2, n + 1 + c * yc_F dd ≤ n2 → wY_compare_17 post yma ypo yhe yvm yin yfi yde yap yas yto yan yco yti yna yac yen yic n2 (nI (M + 1 + c)) o l kS d pl ys yk yn yp yf yo yi yw ya y1 y2 yK yW yL yq nm nv no yA lf2 rt2 iK iN := by
      intro c
      induction c with
      | zero =>
        intro q lf2 rt2 hq f1 f2 f3 f4 hr n2 hn2
        obtain ⟨n3, rfl⟩ : ∃ n3, n2 = n3 + 1 := ⟨n2 - 1, by omega⟩
        have he : oo_c (oo_h K N) Z P (dd + 1) s1 t1 = oo_sg la lb := by rw [hr, oo_r_e (by rw [zs, zt]; omega), zs, zt]
        rw [he] at hdone hcont
        exact yc_len (by omega) j5 i5 f2 f3 (fun z => hdone z lf2 rt2) (fun z => hcont z lf2 rt2 f1 n3 (by omega))
      | succ c ihc =>
        intro q lf2 rt2 hq f1 f2 f3 f4 hr n2 hn2
        have hmin : q < min (Z s1).toNatClampNeg (Z t1).toNatClampNeg := by rw [zs, zt]; omega
        have hrs := oo_r_s (K := K) (N := N) (P := P) (dd := dd + 1) hmin
        rw [show dd + 1 - 1 = dd from rfl] at hrs
        obtain ⟨p1, p2⟩ := f4 q (Nat.le_refl _) (by omega)
        rw [show M + min la lb - q = M + 1 + c by omega] at p1 p2
        obtain ⟨za, ea, _, _, za3, za4, _, za6⟩ := oo_slot hx c3
        obtain ⟨zb, eb, _, _, zb3, zb4, _, zb6⟩ := oo_slot hx d3
        have hza : za = la := (nI_eq (by omega) (by omega)).mp (za3.symm.trans j8)
        have hzb : zb = lb := (nI_eq (by omega) (by omega)).mp (zb3.symm.trans i8)
        obtain ⟨sc, e', q1, q2, q3, q4, q5, q6⟩ := za6 q (by omega)
        obtain ⟨tc, e2', r1, r2, r3, r4, r5, r6⟩ := zb6 q (by omega)
        have hda : ea ≤ dd + 1 := by
          obtain ⟨e, x1, x2⟩ := hDs
          have := (nI_eq (by omega) (by omega)).mp (za4.symm.trans x1)
          omega
        have hdb : eb ≤ dd + 1 := by
          obtain ⟨e, x1, x2⟩ := hDt
          have := (nI_eq (by omega) (by omega)).mp (zb4.symm.trans x1)
          omega
        have Ra := j10 q (by omega)
        have Rb := i10 q (by omega)
        rw [q1] at Ra
        rw [r1] at Rb
        rw [q2, r2] at hrs
        rw [show M + 1 + (c + 1) = M + 1 + c + 1 by omega]
        have hm : (c + 1) * yc_F dd = c * yc_F dd + yc_F dd := Nat.succ_mul _ _
        refine ihd sc tc (pl (oa + q)) (pl (ob + q)) (M + 1 + c) (n + 1 + c * yc_F dd) lf2 rt2 q3 r3 Ra Rb ⟨e', q5, by omega⟩ ⟨e2', r5, by omega⟩ (by omega) p1 p2 ?_ ?_ n2 (by omega)
        · intro hne lf3 rt3
          rw [if_neg hne] at hrs
          rw [hr, hrs] at hdone
          exact hdone hne lf3 rt3
        · intro h0 lf3 rt3 hag n3 hn3
          rw [if_pos h0] at hrs
          refine ihc (q + 1) lf3 rt3 (by omega) (fun i hi => ?_) ?_ ?_ (fun i hi hi' => ?_) (hr.trans hrs) n3 hn3
          · exact ⟨(hag i (by omega)).1.trans (f1 i hi).1, (hag i (by omega)).2.trans (f1 i hi).2⟩
          · exact (hag M (by omega)).1.trans f2
          · exact (hag M (by omega)).2.trans f3
          · exact ⟨(hag _ (by omega)).1.trans (f4 i (by omega) hi').1, (hag _ (by omega)).2.trans (f4 i (by omega) hi').2⟩
    have hm : min la lb * yc_F dd ≤ 10 * yc_F dd := Nat.mul_le_mul_right _ (by omega)
    exact loop (min la lb) 0 lf1 rt1 (by omega) g1 g2 g3 (fun i _ hi => g4 i hi) hc0 n1 (by omega)
theorem ym_compare {yma ypo yhe yvm : Int32} {yin : Int64} {yfi yde yap yas yto : Int32} {yan : Int64} {yco yti yna yac yen yic : Int32} {o l kS d : Nat → Int32} {pl ys : Nat → Int64} {yk yn yp yf yo : Nat → Int32} {yi : Nat → Int64} {yw ya y1 y2 : Nat → Int32} {yK : Nat → Int64} {yW : Nat → Int32} {yL : Nat → Int64} {yq nm : Nat → Int32} {nv : Nat → Int64} {no : Nat → Int32} {yA lf rt : Nat → Int64} {iK iN : Nat → Int32} {V : Nat → Prop} {K N Z D Im W P : Nat → Int32} {mk pd s t : Nat} {post : Int32 → SY → Prop} {a b : Int64} (hx : vv_ox V K N Z D Im W P) (hy : vv_cy mk pd o l pl) (hs : s < 653) (ht : t < 653) (Rs : vv_R V K N Z D P mk o l kS d pl (nI s) a) (Rt : vv_R V K N Z D P mk o l kS d pl (nI t) b)
    (hp : ∀ lf' rt' : Nat → Int64, post (oo_c (oo_h K N) Z P 4 s t) (yma, ypo, yhe, yvm, yin, yfi, yde, yap, yas, yto, yan, yco, yti, yna, yac, yen, yic, o, l, kS, d, pl, ys, yk, yn, yp, yf, yo, yi, yw, ya, y1, y2, yK, yW, yL, yq, nm, nv, no, yA, lf', rt', iK, iN)) : wpY_compare post (yma, ypo, yhe, yvm, yin, yfi, yde, yap, yas, yto, yan, yco, yti, yna, yac, yen, yic, o, l, kS, d, pl, ys, yk, yn, yp, yf, yo, yi, yw, ya, y1, y2, yK, yW, yL, yq, nm, nv, no, yA, lf, rt, iK, iN) a b := by
  have Rs0 := Rs
  have Rt0 := Rt
  obtain ⟨s1, e1, e2, e3, _⟩ := Rs
  obtain ⟨t1, f1, f2, f3, _⟩ := Rt
  have es : s1 = s := (nI_eq (by omega) (by omega)).mp e1.symm
  have et : t1 = t := (nI_eq (by omega) (by omega)).mp f1.symm
  subst es et
  obtain ⟨ds, d4, de⟩ := vv_D hx e3
  obtain ⟨dt, dt4, dte⟩ := vv_D hx f3
  unfold wpY_compare
  dsimp only
  refine nm_e (nm_e ⟨1 + yc_F 4, ?_⟩)
  refine yc_val (lf := lf) (rt := rt) hx hy 4 s1 t1 a b 0 1 _ _ hs ht Rs0 Rt0 ⟨ds, de, d4⟩ ⟨dt, dte, dt4⟩ (by omega) pk_uLs pk_uLs (fun _ lf' rt' => hp lf' rt') (fun h0 lf' rt' _ n' hn' => ?_) _ (Nat.le_refl _)
  obtain ⟨n1, rfl⟩ : ∃ n1, n' = n1 + 1 := ⟨n' - 1, by omega⟩
  have := hp lf' rt'
  rw [h0] at this
  unfold wY_compare_17
  exact br_t (by decide) this
end
section
/-! ===== deep: X ===== -/
section
variable {V : Nat → Prop} {K N Z D Im W P : Nat → Int32}
theorem dp_len (hx : vv_ox V K N Z D Im W P) : ∀ (p : List Nat) s e, V s → D s = nI e → e ≤ 4 → dp_ok Z P p s → p.length ≤ e ∧ ∀ k, k ∈ p → k < 10
  | [], _, _, _, _, _, _ => ⟨by simp, fun k hk => absurd hk (by simp)⟩
  | i :: p, s, e, hs, he, h4, hp => by
    obtain ⟨z, e1, h10, h4', ez, ee, _, hc⟩ := oo_slot hx hs
    have : e1 = e := (nI_eq (by omega) (by omega)).mp (ee.symm.trans he)
    obtain ⟨h1, h2⟩ := hp
    rw [ez, nI_clamp (by omega)] at h1
    obtain ⟨c, e', c1, c2, c3, c4, c5, c6⟩ := hc i h1
    rw [c2] at h2
    obtain ⟨l1, l2⟩ := dp_len hx p c e' c4 c5 (by omega) h2
    refine ⟨by rw [List.length_cons]; omega, fun k hk => ?_⟩
    rcases List.mem_cons.mp hk with w | w
    · omega
    · exact l2 k w
end
theorem xm_within {xst xow xin xpa xfi xfr xno xsi xan xkn xen xco xrm xac : Int32} {K N Z D Im W P vS pO pX pI fS fP fI fU fR fO fA fH fG fN aS qL qR qP : Nat → Int32} {V : Nat → Prop} {post : Int32 → Prop} (hx : vv_ox V K N Z D Im W P) {p0 : List Nat} {s0 : Nat} (h0 : V s0) (hok : dp_ok Z P p0 s0) (hlen : p0.length ≤ 4) (hp : post (nI (dp_at P p0 s0))) : wpX_within post (xst, xow, xin, xpa, xfi, xfr, xno, xsi, xan, xkn, xen, xco, xrm, xac, K, N, Z, D, Im, W, P, vS, pO, pX, pI, fS, fP, fI, fU, fR, fO, fA, fH, fG, fN, aS, qL, qR, qP) (nI s0) (nI (dp_ix W P p0 s0)) := by
  have key : ∀ (p : List Nat) (s L : Nat), V s → dp_ok Z P p s → L + p.length ≤ 4 → post (nI (dp_at P p s)) → wX_within_8 post xst xow xin xpa xfi xfr xno xsi xan xkn xen xco xrm xac K N Z D Im W P vS pO pX pI fS fP fI fU fR fO fA fH fG fN aS qL qR qP (p.length + 1) (nI s) (nI (dp_ix W P p s)) (nI L) := by
    intro p
    induction p with
    | nil =>
      intro s L hs _ hL hq
      unfold wX_within_8
      exact br_c (fun _ => hq) (fun _ => br_t (by show nI 0 ≤ 0; decide) hq)
    | cons i p ih =>
      intro s L hs hok hL hq
      obtain ⟨z, e1, h10, h4', ez, ee, _, hc⟩ := oo_slot hx hs
      obtain ⟨o1, o2⟩ := hok
      rw [ez, nI_clamp (by omega)] at o1
      obtain ⟨s6, _⟩ := hx s hs
      rw [List.length_cons] at hL
      -- the children that are passed
      have hw : ∀ f, f < z → ∃ c w, dp_ch P s f = c ∧ P (s * 10 + f) = nI c ∧ c < 653 ∧ V c ∧ W c = nI w ∧ w ≤ 23332 ∧ dp_w W P s f = w := by
        intro f hf
        obtain ⟨c, e', c1, c2, c3, c4, c5, c6⟩ := hc f hf
        obtain ⟨w, w1, _, w3⟩ := (vv_IW4 hx c4).2
        exact ⟨c, w, c2, c1, c3, c4, w1, w3, by rw [dp_w, c2, w1, nI_clamp (by omega)]⟩
      obtain ⟨ci, wi, a1, a2, a3, a4, a5, a6, a7⟩ := hw i o1
      have hix : dp_ix W P p (dp_ch P s i) < wi := by
        have := dp_ix_lt hx p (dp_ch P s i) (by rw [a1]; exact a4) o2
        rw [a1, a5, nI_clamp (by omega)] at this
        rw [a1]
        exact this
      have hbd : vv_sm (dp_w W P s) i ≤ i * 23332 := vv_sm_le i (fun f hf => by
        obtain ⟨c, w, _, _, _, _, _, b1, b2⟩ := hw f (by omega)
        rw [b2]; exact b1)
      have hbd2 : i * 23332 ≤ 10 * 23332 := Nat.mul_le_mul_right _ (by omega)
      have inner : ∀ r f, f + r = i → wX_within_47 post (wX_within_8 post xst xow xin xpa xfi xfr xno xsi xan xkn xen xco xrm xac K N Z D Im W P vS pO pX pI fS fP fI fU fR fO fA fH fG fN aS qL qR qP (p.length + 1)) (nI L) (nI (s * 10)) (nI z) xst xow xin xpa xfi xfr xno xsi xan xkn xen xco xrm xac K N Z D Im W P vS pO pX pI fS fP fI fU fR fO fA fH fG fN aS qL qR qP (r + 1) (nI (dp_ch P s f)) (nI (vv_sm (dp_w W P s) i - vv_sm (dp_w W P s) f + dp_ix W P p (dp_ch P s i))) (nI (f + 1)) := by
        intro r
        induction r with
        | zero =>
          intro f hf
          have hf' : f = i := by omega
          subst hf'
          have nxt := ih (dp_ch P s f) (L + 1) (by rw [a1]; exact a4) o2 (by omega) hq
          rw [Nat.sub_self, Nat.zero_add (dp_ix W P p (dp_ch P s f))]
          unfold wX_within_47
          refine pk_le z (f + 1) (fun _ => nm_r (nI_1 L) nxt) (fun _ => ?_)
          rw [a1] at hix nxt ⊢
          refine ⟨vp_in_nI a3 (by omega), ?_⟩
          rw [nI_clamp (show ci < 2 ^ 31 by omega), a5]
          exact br_t (nI_lt hix (by omega)) (nm_r (nI_1 L) nxt)
        | succ r ihr =>
          intro f hf
          obtain ⟨c, w, b1, b2, b3, b4, b5, b6, b7⟩ := hw f (by omega)
          obtain ⟨c', w', b1', b2', _⟩ := hw (f + 1) (by omega)
          have hup := vv_sm_up (f := dp_w W P s) (i := f) (z := i) (by omega)
          have hs1 : vv_sm (dp_w W P s) (f + 1) = vv_sm (dp_w W P s) f + w := by rw [vv_sm, b7]
          rw [b7] at hup
          unfold wX_within_47
          refine br_f (nI_ge (by omega) (by omega)) ?_
          rw [b1]
          refine ⟨vp_in_nI b3 (by omega), ?_⟩
          rw [nI_clamp (show c < 2 ^ 31 by omega), b5, pk_sub (show w ≤ vv_sm (dp_w W P s) i - vv_sm (dp_w W P s) f + dp_ix W P p (dp_ch P s i) by omega), nI_add, nI_clamp (show s * 10 + (f + 1) < 2 ^ 31 by omega), b2']
          refine br_f (nI_nlt (by omega) (by omega)) ⟨vp_in_nI b3 (by omega), nm_e ⟨vp_in_nI (by omega) (by omega), nm_e (nm_r (nI_1 (f + 1)) ?_)⟩⟩
          have := ihr (f + 1) (by omega)
          rw [b1', hs1, show vv_sm (dp_w W P s) i - (vv_sm (dp_w W P s) f + w) + dp_ix W P p (dp_ch P s i) = vv_sm (dp_w W P s) i - vv_sm (dp_w W P s) f + dp_ix W P p (dp_ch P s i) - w by omega] at this
          exact this
      have h00 := inner i 0 (by omega)
      obtain ⟨c0, w0, z1, z2, z3, _⟩ := hw 0 (by omega)
      rw [z1, show vv_sm (dp_w W P s) 0 = 0 from rfl, Nat.sub_zero] at h00
      unfold wX_within_8
      have e0 : dp_ix W P (i :: p) s = vv_sm (dp_w W P s) i + dp_ix W P p (dp_ch P s i) + 1 := by rw [dp_ix]; omega
      rw [e0]
      refine br_f (nI_ge (b := 4) (by omega) (by omega)) (br_f (nI_nle (by omega) (by omega)) (nm_r (pk_m1 _) (nm_r (show nI s * 10 = nI (s * 10) from pk_mul s 10) ⟨vp_in_nI s6 (by omega), ?_⟩)))
      rw [nI_clamp (show s < 2 ^ 31 by omega), ez, nI_clamp (show s * 10 < 2 ^ 31 by omega), show s * 10 = s * 10 + 0 from rfl, z2]
      exact nm_e ⟨vp_in_nI (by omega) (by omega), nm_e ⟨_, h00⟩⟩
  unfold wpX_within
  dsimp only
  exact ⟨_, key p0 s0 0 h0 hok (by omega) hp⟩
end
section
/-! ===== deep: Y ===== -/
theorem dp_wy_1 (p : List Nat) (h : ∀ k, k ∈ p → k < 16) (hl : p.length ≤ 5) : dp_wy p < 2 ^ 24 := by
  have h1 := (dp_wy_b p h).2
  have h2 : 16 ^ p.length ≤ 16 ^ 5 := Nat.pow_le_pow_right (by decide) hl
  omega
theorem ym_steps {yma ypo yhe yvm : Int32} {yin : Int64} {yfi yde yap yas yto : Int32} {yan : Int64} {yco yti yna yac yen yic : Int32} {o l kS d : Nat → Int32} {pl ys : Nat → Int64} {yk yn yp yf yo : Nat → Int32} {yi : Nat → Int64} {yw ya y1 y2 : Nat → Int32} {yK : Nat → Int64} {yW : Nat → Int32} {yL : Nat → Int64} {yq nm : Nat → Int32} {nv : Nat → Int64} {no : Nat → Int32} {yA lf rt : Nat → Int64} {iK iN : Nat → Int32} {post : Int32 → Prop} {p : List Nat} (hd : ∀ k, k ∈ p → k < 16) (hl : p.length ≤ 5) (hp : post (nI p.length)) : wpY_steps post (yma, ypo, yhe, yvm, yin, yfi, yde, yap, yas, yto, yan, yco, yti, yna, yac, yen, yic, o, l, kS, d, pl, ys, yk, yn, yp, yf, yo, yi, yw, ya, y1, y2, yK, yW, yL, yq, nm, nv, no, yA, lf, rt, iK, iN) (nI (dp_wy p)) := by
  have key : ∀ c (q : List Nat), q.length = c → c ≤ p.length → (∀ k, k ∈ q → k < 16) → wY_steps_4 post yma ypo yhe yvm yin yfi yde yap yas yto yan yco yti yna yac yen yic o l kS d pl ys yk yn yp yf yo yi yw ya y1 y2 yK yW yL yq nm nv no yA lf rt iK iN (c + 1) (nI (p.length - c)) (nI (dp_wy q)) := by
    intro c
    induction c with
    | zero =>
      intro q hq hc hk
      have hq' : q = [] := List.eq_nil_of_length_eq_zero hq
      subst hq'
      unfold wY_steps_4
      exact br_t (by show nI 1 ≤ 15; decide) hp
    | succ c ih =>
      intro q hq hc hk
      have hne : q ≠ [] := by
        intro e
        rw [e] at hq
        simp at hq
      have hsp := List.dropLast_concat_getLast hne
      have hlast := hk _ (List.getLast_mem hne)
      have hmem : ∀ k, k ∈ q.dropLast → k ∈ q := fun k hk' => by rw [← hsp]; exact List.mem_append_left _ hk'
      have hwy : dp_wy q = dp_wy q.dropLast * 16 + q.getLast hne := by
        conv => lhs; rw [← hsp]
        exact dp_wy_s _ _
      have hb := dp_wy_1 q hk (by omega)
      have h1 := (dp_wy_b q.dropLast (fun k hk' => hk k (hmem k hk'))).1
      have hp1 : 0 < 16 ^ q.dropLast.length := Nat.pow_pos (by decide)
      have hih := ih q.dropLast (by rw [List.length_dropLast, hq]; rfl) (by omega) (fun k hk' => hk k (hmem k hk'))
      unfold wY_steps_4
      refine br_f (nI_ge (a := 15) (by omega) (by omega)) ⟨by decide, nm_r (pk_div (d := 16) (by omega) (by omega) (by omega)) (nm_r (nI_1 _) ?_)⟩
      rw [show dp_wy q / 16 = dp_wy q.dropLast by omega, show p.length - (c + 1) + 1 = p.length - c by omega]
      exact hih
  unfold wpY_steps
  dsimp only
  have := key p.length p rfl (Nat.le_refl _) hd
  rw [Nat.sub_self] at this
  exact ⟨_, this⟩
theorem yd_dig {q r : List Nat} {k : Nat} (hk : k < 16) (hr : ∀ j, j ∈ r → j < 16) (hq : ∀ j, j ∈ q → j < 16) (hl : (q ++ k :: r).length ≤ 5) : (nI (dp_wy (q ++ k :: r)) >>> ((4 * nI r.length) &&& 31)) &&& 15 = nI k := by
  have hb := dp_wy_1 (q ++ k :: r) (fun j hj => by
    rcases List.mem_append.mp hj with z | z
    · exact hq j z
    · rcases List.mem_cons.mp z with z | z
      · omega
      · exact hr j z) hl
  have hlen : r.length ≤ 4 := by
    rw [List.length_append, List.length_cons] at hl
    omega
  have hd := dp_dig q r k hr hk
  have e4 : (4 : Int32) * nI r.length = nI (4 * r.length) := pk_mul 4 r.length
  have hs : dp_wy (q ++ k :: r) / 2 ^ (4 * r.length) = dp_wy (q ++ k :: r) / 16 ^ r.length := by rw [Nat.pow_mul]
  rw [e4, pk_shrN (by omega) _ (4 * r.length) (s_l (4 * r.length) (by omega)), hs, pk_andN (m := 15) (Nat.lt_of_le_of_lt (Nat.div_le_self _ _) (by omega)) 4 (by decide)]
  rw [show (2 : Nat) ^ 4 = 16 from rfl, hd]
section
variable {V : Nat → Prop} {K N Z D Im W P : Nat → Int32} {o l kS d : Nat → Int32} {pl : Nat → Int64} {mk pd : Nat}
/-- a value of Y, seen from X's slot -/
theorem yd_see (hx : vv_ox V K N Z D Im W P) (hy : vv_cy mk pd o l pl) {c : Nat} {w : Int64} (hc : c < 653) (h : vv_R V K N Z D P mk o l kS d pl (nI c) w) :
    ∃ κ x, κ ≤ 5 ∧ w = yy_t κ x ∧ K c = nI κ ∧ V c ∧ ((κ < 4 ∧ N c = x ∧ Z c = 0 ∧ D c = 0) ∨ (4 ≤ κ ∧ ∃ j a b, j < 760 ∧ x = nI j ∧ o j = nI a ∧ l j = nI b ∧ b ≤ 10 ∧ a + b ≤ 8200 ∧ N c = kS j ∧ Z c = nI b ∧ D c = d j ∧ ∀ i, i < b → dp_ch P c i < 653 ∧ P (c * 10 + i) = nI (dp_ch P c i) ∧ vv_R V K N Z D P mk o l kS d pl (nI (dp_ch P c i)) (pl (a + i)))) := by
  obtain ⟨n, κ, x, c1, c2, c3, c4, c5, c6, c7⟩ := vv_R_is hx hy h
  have e : n = c := (nI_eq (by omega) (by omega)).mp c1.symm
  subst e
  refine ⟨κ, x, c4, c5, c6, c3, ?_⟩
  rcases c7 with w | ⟨w1, j, a, b, j1, j2, j3, j4, j5, j6, j7, j8, j9, j10⟩
  · exact Or.inl w
  · have h7 := hy.1
    have h8 := hy.2.1
    refine Or.inr ⟨w1, j, a, b, by omega, j2, j3, j4, j5, by omega, j7, j8, j9, fun i hi => ?_⟩
    have hR := j10 i hi
    obtain ⟨m, m1, m2, _⟩ := hR
    have em : dp_ch P n i = m := by rw [dp_ch, m1, nI_clamp (by omega)]
    rw [em]
    refine ⟨m2, m1, ?_⟩
    have hR := j10 i hi
    rw [m1] at hR
    exact hR
end
theorem ym_hasWay {yma ypo yhe yvm : Int32} {yin : Int64} {yfi yde yap yas yto : Int32} {yan : Int64} {yco yti yna yac yen yic : Int32} {o l kS d : Nat → Int32} {pl ys : Nat → Int64} {yk yn yp yf yo : Nat → Int32} {yi : Nat → Int64} {yw ya y1 y2 : Nat → Int32} {yK : Nat → Int64} {yW : Nat → Int32} {yL : Nat → Int64} {yq nm : Nat → Int32} {nv : Nat → Int64} {no : Nat → Int32} {yA lf rt : Nat → Int64} {iK iN : Nat → Int32} {V : Nat → Prop} {K N Z D Im W P : Nat → Int32} {mk pd s0 : Nat} {w0 : Int64} {post : Int32 → Prop} {p : List Nat} (hx : vv_ox V K N Z D Im W P) (hy : vv_cy mk pd o l pl) (h0 : s0 < 653) (R0 : vv_R V K N Z D P mk o l kS d pl (nI s0) w0)
    (hd : ∀ k, k ∈ p → k < 16) (hl : p.length ≤ 5) (h1 : dp_ok Z P p s0 → post 1) (h2 : ¬ dp_ok Z P p s0 → post 0) : wpY_hasWay post (yma, ypo, yhe, yvm, yin, yfi, yde, yap, yas, yto, yan, yco, yti, yna, yac, yen, yic, o, l, kS, d, pl, ys, yk, yn, yp, yf, yo, yi, yw, ya, y1, y2, yK, yW, yL, yq, nm, nv, no, yA, lf, rt, iK, iN) w0 (nI (dp_wy p)) := by
  have key : ∀ (r q : List Nat) (c : Nat) (w : Int64), p = q ++ r → c < 653 → vv_R V K N Z D P mk o l kS d pl (nI c) w → (dp_ok Z P r c → post 1) → (¬ dp_ok Z P r c → post 0) → wY_hasWay_16 post (nI (dp_wy p)) yma ypo yhe yvm yin yfi yde yap yas yto yan yco yti yna yac yen yic o l kS d pl ys yk yn yp yf yo yi yw ya y1 y2 yK yW yL yq nm nv no yA lf rt iK iN (r.length + 1) w (nI r.length - 1) := by
    intro r
    induction r with
    | nil =>
      intro q c w hq hc hR h1 _
      unfold wY_hasWay_16
      exact br_t (by show nI 0 - 1 < 0; decide) (h1 trivial)
    | cons k r ih =>
      intro q c w hq hc hR h1 h2
      have hk : k < 16 := hd k (by rw [hq]; simp)
      have hr : ∀ j, j ∈ r → j < 16 := fun j hj => hd j (by rw [hq]; simp [hj])
      have hqq : ∀ j, j ∈ q → j < 16 := fun j hj => hd j (by rw [hq]; simp [hj])
      have hdg := yd_dig hk hr hqq (by rw [← hq]; exact hl)
      rw [← hq] at hdg
      unfold wY_hasWay_16
      rw [List.length_cons, nI_pred, hdg]
      have hlr : r.length < 2 ^ 31 := by
        have := hl
        rw [hq, List.length_append, List.length_cons] at this
        omega
      refine br_f (nI_pos hlr) (nm_e ?_)
      obtain ⟨κ, x, k5, rfl, _, _, ⟨a1, a2, a3, a4⟩ | ⟨a1, j, a, b, b1, rfl, b3, b4, b5, b6, b7, b8, b9, b10⟩⟩ := yd_see hx hy hc hR
      · refine ym_sort (by omega) (br_t (nI_lt (b := 4) a1 (by omega)) (h2 (fun z => ?_)))
        have := z.1
        rw [a3] at this
        exact absurd this (by rw [show (0 : Int32).toNatClampNeg = 0 from by decide]; omega)
      · refine ym_sort (by omega) (br_f (nI_nlt (b := 4) a1 (by omega)) (ym_lengthOf b1 ?_))
        rw [b4]
        have ez : (Z c).toNatClampNeg = b := by rw [b8, nI_clamp (by omega)]
        refine pk_lt k b (fun z => ?_) (fun z => h2 (fun w => ?_))
        · obtain ⟨d1, d2, d3⟩ := b10 k z
          refine ym_place b1 b3 (by omega) (nm_r (yc_m1 _) ?_)
          exact ih (q ++ [k]) (dp_ch P c k) _ (by rw [hq]; simp) d1 d3 (fun w => h1 ⟨by rw [ez]; exact z, w⟩) (fun w => h2 (fun w' => w w'.2))
        · have := w.1
          rw [ez] at this
          omega
  unfold wpY_hasWay
  dsimp only
  exact ym_steps hd hl (nm_e ⟨_, key p [] s0 w0 rfl h0 R0 h1 h2⟩)
theorem ym_atWay {yma ypo yhe yvm : Int32} {yin : Int64} {yfi yde yap yas yto : Int32} {yan : Int64} {yco yti yna yac yen yic : Int32} {o l kS d : Nat → Int32} {pl ys : Nat → Int64} {yk yn yp yf yo : Nat → Int32} {yi : Nat → Int64} {yw ya y1 y2 : Nat → Int32} {yK : Nat → Int64} {yW : Nat → Int32} {yL : Nat → Int64} {yq nm : Nat → Int32} {nv : Nat → Int64} {no : Nat → Int32} {yA lf rt : Nat → Int64} {iK iN : Nat → Int32} {V : Nat → Prop} {K N Z D Im W P : Nat → Int32} {mk pd s0 : Nat} {w0 : Int64} {post : Int64 → Prop} {p : List Nat} (hx : vv_ox V K N Z D Im W P) (hy : vv_cy mk pd o l pl) (h0 : s0 < 653) (R0 : vv_R V K N Z D P mk o l kS d pl (nI s0) w0)
    (hd : ∀ k, k ∈ p → k < 16) (hl : p.length ≤ 5) (hok : dp_ok Z P p s0) (hp : ∀ w, vv_R V K N Z D P mk o l kS d pl (nI (dp_at P p s0)) w → post w) : wpY_atWay post (yma, ypo, yhe, yvm, yin, yfi, yde, yap, yas, yto, yan, yco, yti, yna, yac, yen, yic, o, l, kS, d, pl, ys, yk, yn, yp, yf, yo, yi, yw, ya, y1, y2, yK, yW, yL, yq, nm, nv, no, yA, lf, rt, iK, iN) w0 (nI (dp_wy p)) := by
  have key : ∀ (r q : List Nat) (c : Nat) (w : Int64), p = q ++ r → c < 653 → vv_R V K N Z D P mk o l kS d pl (nI c) w → dp_ok Z P r c → (∀ w, vv_R V K N Z D P mk o l kS d pl (nI (dp_at P r c)) w → post w) → wY_atWay_16 post (nI (dp_wy p)) yma ypo yhe yvm yin yfi yde yap yas yto yan yco yti yna yac yen yic o l kS d pl ys yk yn yp yf yo yi yw ya y1 y2 yK yW yL yq nm nv no yA lf rt iK iN (r.length + 1) w (nI r.length - 1) := by
    intro r
    induction r with
    | nil =>
      intro q c w hq hc hR _ h1
      unfold wY_atWay_16
      exact br_t (by show nI 0 - 1 < 0; decide) (h1 w hR)
    | cons k r ih =>
      intro q c w hq hc hR hok h1
      have hk : k < 16 := hd k (by rw [hq]; simp)
      have hr : ∀ j, j ∈ r → j < 16 := fun j hj => hd j (by rw [hq]; simp [hj])
      have hqq : ∀ j, j ∈ q → j < 16 := fun j hj => hd j (by rw [hq]; simp [hj])
      have hdg := yd_dig hk hr hqq (by rw [← hq]; exact hl)
      rw [← hq] at hdg
      unfold wY_atWay_16
      rw [List.length_cons, nI_pred, hdg]
      have hlr : r.length < 2 ^ 31 := by
        have := hl
        rw [hq, List.length_append, List.length_cons] at this
        omega
      refine br_f (nI_pos hlr) ?_
      obtain ⟨o1, o2⟩ := hok
      obtain ⟨κ, x, k5, rfl, _, _, ⟨a1, a2, a3, a4⟩ | ⟨a1, j, a, b, b1, rfl, b3, b4, b5, b6, b7, b8, b9, b10⟩⟩ := yd_see hx hy hc hR
      · rw [a3] at o1
        exact absurd o1 (by rw [show (0 : Int32).toNatClampNeg = 0 from by decide]; omega)
      · rw [b8, nI_clamp (by omega)] at o1
        obtain ⟨d1, d2, d3⟩ := b10 k o1
        refine ym_place b1 b3 (by omega) (nm_r (yc_m1 _) ?_)
        exact ih (q ++ [k]) (dp_ch P c k) _ (by rw [hq]; simp) d1 d3 o2 h1
  unfold wpY_atWay
  dsimp only
  exact ym_steps hd hl (nm_e ⟨_, key p [] s0 w0 rfl h0 R0 hok hp⟩)
end
section
theorem yd_loop {yma ypo yhe yvm : Int32} {yin : Int64} {yfi yde yap yas yto : Int32} {yan : Int64} {yco yti yna yac yen yic : Int32} {o l kS d : Nat → Int32} {pl ys : Nat → Int64} {yk yn yp yf yo : Nat → Int32} {yi : Nat → Int64} {yw ya y1 y2 : Nat → Int32} {yK : Nat → Int64} {yW : Nat → Int32} {yL : Nat → Int64} {yq nm : Nat → Int32} {nv : Nat → Int64} {no : Nat → Int32} {yA lf rt : Nat → Int64} {iK iN : Nat → Int32} {V : Nat → Prop} {K N Z D Im W P : Nat → Int32} {mk pd s0 g : Nat} {post : SY → Prop} {p : List Nat} (hx : vv_ox V K N Z D Im W P) (hy : vv_cy mk pd o l pl) (h0 : s0 < 653) (R0 : vv_R V K N Z D P mk o l kS d pl (nI s0) (yi g)) (hg : g < 600) (hok : dp_ok Z P p s0)
    (h1 : dp_ix W P p s0 + 1 = (W s0).toNatClampNeg → wY_tellDeep_94 post (nI g) 0 yma ypo yhe yvm yin yfi yde yap yas yto yan yco yti yna yac yen yic o l kS d pl ys yk yn yp yf yo yi yw ya y1 y2 yK yW yL yq nm nv no yA lf rt iK iN)
    (h2 : ∀ p2, dp_ok Z P p2 s0 → p2.length ≤ 4 → dp_ix W P p2 s0 = dp_ix W P p s0 + 1 → wY_tellDeep_94 post (nI g) (nI (dp_wy p2)) yma ypo yhe yvm yin yfi yde yap yas yto yan yco yti yna yac yen yic o l kS d pl ys yk yn yp yf yo yi yw ya y1 y2 yK yW yL yq nm nv no yA lf rt iK iN) :
    ∃ n, wY_tellDeep_52 post (nI g) yma ypo yhe yvm yin yfi yde yap yas yto yan yco yti yna yac yen yic o l kS d pl ys yk yn yp yf yo yi yw ya y1 y2 yK yW yL yq nm nv no yA lf rt iK iN n (nI (dp_wy p) * 16) := by
  have V0 : V s0 := by
    obtain ⟨n, e1, e2, e3, _⟩ := R0
    have : n = s0 := (nI_eq (by omega) (by omega)).mp e1.symm
    subst this
    exact e3
  obtain ⟨ds, d4, de⟩ := vv_D hx V0
  have hin : vp_in (nI g) 601 := vp_in_nI (by omega) (by omega)
  have eg : (nI g).toNatClampNeg = g := nI_clamp (by omega)
  have hsz : ∀ r, dp_ok Z P r s0 → (Z (dp_at P r s0)).toNatClampNeg ≤ 10 := by
    intro r hr
    obtain ⟨z, hz, ez, _⟩ := vv_ox_z hx (dp_V hx r s0 V0 hr)
    rw [ez, nI_clamp (by omega)]
    exact hz
  have hdg : ∀ r k, dp_ok Z P r s0 → k ≤ 10 → (∀ j, j ∈ r ++ [k] → j < 16) ∧ (r ++ [k]).length ≤ 5 := by
    intro r k hr hk
    obtain ⟨l1, l2⟩ := dp_len hx r s0 ds V0 de d4 hr
    refine ⟨fun j hj => ?_, by rw [List.length_append, List.length_singleton]; omega⟩
    rcases List.mem_append.mp hj with z | z
    · have := l2 j z; omega
    · have : j = k := by simpa using z
      omega
  have key : ∀ c r k, r.length = c → dp_ok Z P r s0 → k ≤ (Z (dp_at P r s0)).toNatClampNeg → dp_ix W P r s0 + 1 + vv_sm (dp_w W P (dp_at P r s0)) k = dp_ix W P p s0 + 1 → wY_tellDeep_52 post (nI g) yma ypo yhe yvm yin yfi yde yap yas yto yan yco yti yna yac yen yic o l kS d pl ys yk yn yp yf yo yi yw ya y1 y2 yK yW yL yq nm nv no yA lf rt iK iN (c + 2) (nI (dp_wy (r ++ [k]))) := by
    intro c
    induction c with
    | zero =>
      intro r k hr ho hk hix
      have hr' : r = [] := List.eq_nil_of_length_eq_zero hr
      subst hr'
      have hz := hsz [] ho
      obtain ⟨g1, g2⟩ := hdg [] k ho (by omega)
      have hw : dp_wy ([] ++ [k]) = 16 + k := by rw [dp_wy_s]; rfl
      unfold wY_tellDeep_52
      rw [eg]
      refine br_f (by rw [hw]; exact nI_ge (a := 15) (by omega) (by omega)) ⟨hin, ym_hasWay hx hy h0 R0 g1 g2 (fun w => br_f (by decide) ?_) (fun w => br_t rfl ⟨by decide, ?_⟩)⟩
      · have l4 := dp_len hx _ s0 ds V0 de d4 w
        exact h2 _ w (by omega) (by rw [dp_ix_s]; exact hix)
      · have hkz : k = (Z (dp_at P [] s0)).toNatClampNeg := by
          rcases Nat.lt_or_ge k (Z (dp_at P [] s0)).toNatClampNeg with z | z
          · exact absurd ((dp_ok_s Z P k [] s0).mpr ⟨ho, z⟩) w
          · omega
        rw [hw]
        refine nm_r (show nI (16 + k) / 16 + 1 = nI 2 from ?_) (br_f (by decide) ?_)
        · rw [show nI (16 + k) / 16 = nI ((16 + k) / 16) from pk_div (d := 16) (by omega) (by omega) (by omega), nI_1, show (16 + k) / 16 = 1 by omega]
        · unfold wY_tellDeep_52
          refine br_t (by decide) (h1 ?_)
          rw [dp_W hx V0]
          show _ = 1 + vv_sm (dp_w W P (dp_at P [] s0)) (Z (dp_at P [] s0)).toNatClampNeg
          rw [← hkz, ← hix]
          show 0 + 1 + _ = _
          omega
    | succ c ih =>
      intro r k hr ho hk hix
      have hz := hsz r ho
      obtain ⟨g1, g2⟩ := hdg r k ho (by omega)
      have hwb := (dp_wy_b (r ++ [k]) g1)
      have hw24 := dp_wy_1 (r ++ [k]) g1 g2
      have hws := dp_wy_s r k
      have hne : r ≠ [] := by
        intro e
        rw [e] at hr
        simp at hr
      obtain ⟨r', k', rfl⟩ : ∃ r' k', r = r' ++ [k'] := ⟨r.dropLast, r.getLast hne, (List.dropLast_concat_getLast hne).symm⟩
      rw [List.length_append, List.length_singleton] at hr
      obtain ⟨o1, o2⟩ := (dp_ok_s Z P k' r' s0).mp ho
      have hz' := hsz r' o1
      have hws' := dp_wy_s r' k'
      have hws2 := dp_wy_s r' (k' + 1)
      have hb1 := (dp_wy_b r' (fun j hj => by
        have := (dp_len hx r' s0 ds V0 de d4 o1).2 j hj
        omega)).1
      have hp1 : 0 < 16 ^ r'.length := Nat.pow_pos (by decide)
      unfold wY_tellDeep_52
      rw [eg]
      refine br_f (nI_ge (a := 15) (by omega) (by omega)) ⟨hin, ym_hasWay hx hy h0 R0 g1 g2 (fun w => br_f (by decide) ?_) (fun w => br_t rfl ⟨by decide, ?_⟩)⟩
      · have l4 := dp_len hx _ s0 ds V0 de d4 w
        exact h2 _ w (by omega) (by rw [dp_ix_s]; exact hix)
      · have hkz : k = (Z (dp_at P (r' ++ [k']) s0)).toNatClampNeg := by
          rcases Nat.lt_or_ge k (Z (dp_at P (r' ++ [k']) s0)).toNatClampNeg with z | z
          · exact absurd ((dp_ok_s Z P k (r' ++ [k']) s0).mpr ⟨ho, z⟩) w
          · omega
        refine nm_r (show nI (dp_wy (r' ++ [k'] ++ [k])) / 16 + 1 = nI (dp_wy (r' ++ [k' + 1])) from ?_) (br_t (nI_le (a := 16) (by omega) (by omega)) ?_)
        · rw [show nI (dp_wy (r' ++ [k'] ++ [k])) / 16 = nI (dp_wy (r' ++ [k'] ++ [k]) / 16) from pk_div (d := 16) (by omega) (by omega) (by omega), nI_1]
          congr 1
          omega
        · refine ih r' (k' + 1) (by omega) o1 (by omega) ?_
          rw [← hix, dp_ix_s, hkz, vv_sm]
          have hW := dp_W hx (dp_V hx (r' ++ [k']) s0 V0 ho)
          have hdw : dp_w W P (dp_at P r' s0) k' = (W (dp_at P (r' ++ [k']) s0)).toNatClampNeg := by rw [dp_at_s]; rfl
          rw [hdw, hW]
          omega
  refine ⟨p.length + 2, ?_⟩
  have := key p.length p 0 rfl hok (Nat.zero_le _) (by rw [vv_sm])
  rw [dp_wy_s, Nat.add_zero] at this
  rw [show nI (dp_wy p) * 16 = nI (dp_wy p * 16) from pk_mul _ 16]
  exact this
end
section
/-! ===== what Y asks here, it asks at the start of its run ===== -/
def cr_F (v0 : SY) (mk0 pd0 : Nat) (v : SY) : Prop :=
  match v with
  | (yma, ypo, yhe, yvm, yin, yfi, yde, yap, yas, yto, yan, yco, yti, yna, yac, yen, yic, o, l, kS, d, pl, ys, yk, yn, yp, yf, yo, yi, yw, ya, y1, y2, yK, yW, yL, yq, nm, nv, no, yA, lf, rt, iK, iN) => ∀ post : SY → Prop, (∃ n, wY_work_79 post (nI mk0) (nI pd0) n 1 yma ypo yhe yvm yin yfi yde yap yas yto yan yco yti yna yac yen yic o l kS d pl ys yk yn yp yf yo yi yw ya y1 y2 yK yW yL yq nm nv no yA lf rt iK iN) → wpY_work post v0
def cr_T (v0 : SY) (mk0 pd0 : Nat) (v : SY) : Prop :=
  match v with
  | (yma, ypo, yhe, yvm, yin, yfi, yde, yap, yas, yto, yan, yco, yti, yna, yac, yen, yic, o, l, kS, d, pl, ys, yk, yn, yp, yf, yo, yi, yw, ya, y1, y2, yK, yW, yL, yq, nm, nv, no, yA, lf, rt, iK, iN) => ∀ post : SY → Prop, (∃ n, wY_work_146 post (wY_work_79 post (nI mk0) (nI pd0) n) (nI mk0) (nI pd0) 0 yma ypo yhe yvm yin yfi yde yap yas yto yan yco yti yna yac yen yic o l kS d pl ys yk yn yp yf yo yi yw ya y1 y2 yK yW yL yq nm nv no yA lf rt iK iN) → wpY_work post v0
/-- the run has come to its end -/
def cr_E (v0 : SY) (mk0 pd0 : Nat) (v : SY) : Prop :=
  match v with
  | (yma, ypo, yhe, yvm, yin, yfi, yde, yap, yas, yto, yan, yco, yti, yna, yac, yen, yic, o, l, kS, d, pl, ys, yk, yn, yp, yf, yo, yi, yw, ya, y1, y2, yK, yW, yL, yq, nm, nv, no, yA, lf, rt, iK, iN) => ∀ post : SY → Prop, post ((nI mk0), (nI pd0), yhe, yvm, yin, yfi, yde, yap, yas, yto, yan, yco, yti, yna, yac, yen, yic, o, l, kS, d, pl, ys, yk, yn, yp, yf, yo, yi, yw, ya, y1, y2, yK, yW, yL, yq, nm, nv, no, yA, lf, rt, iK, iN) → wpY_work post v0
theorem cr_as (a : Nat) : nI (a + 1) - 1 = nI a := nI_pred a
section
variable {v0 : SY} {mk0 pd0 : Nat}
theorem cr_FT {yma ypo yhe yvm : Int32} {yin : Int64} {yfi yde yap yas yto : Int32} {yan : Int64} {yco yti yna yac yen yic : Int32} {o l kS d : Nat → Int32} {pl ys : Nat → Int64} {yk yn yp yf yo : Nat → Int32} {yi : Nat → Int64} {yw ya y1 y2 : Nat → Int32} {yK : Nat → Int64} {yW : Nat → Int32} {yL : Nat → Int64} {yq nm : Nat → Int32} {nv : Nat → Int64} {no : Nat → Int32} {yA lf rt : Nat → Int64} {iK iN : Nat → Int32} {yma' ypo' yhe' yvm' : Int32} {yin' : Int64} {yfi' yde' yap' yas' yto' : Int32} {yan' : Int64} {yco' yti' yna' yac' yen' yic' : Int32} {o' l' kS' d' : Nat → Int32} {pl' ys' : Nat → Int64} {yk' yn' yp' yf' yo' : Nat → Int32} {yi' : Nat → Int64} {yw' ya' y1' y2' : Nat → Int32} {yK' : Nat → Int64} {yW' : Nat → Int32} {yL' : Nat → Int64} {yq' nm' : Nat → Int32} {nv' : Nat → Int64} {no' : Nat → Int32} {yA' lf' rt' : Nat → Int64} {iK' iN' : Nat → Int32} {a g : Nat} (h : cr_F v0 mk0 pd0 (yma, ypo, yhe, yvm, yin, yfi, yde, yap, yas, yto, yan, yco, yti, yna, yac, yen, yic, o, l, kS, d, pl, ys, yk, yn, yp, yf, yo, yi, yw, ya, y1, y2, yK, yW, yL, yq, nm, nv, no, yA, lf, rt, iK, iN)) (en : yen = -1000000004) (ea : yas = nI (a + 1)) (ha : a < 600) (eq : yq a = nI g) (ht : yti' = 0) (ea' : yas' = nI a)
    (hs : ∀ Q : SY → Prop, Q (yma', ypo', yhe', yvm', yin', yfi', yde', yap', yas', yto', yan', yco', yti', yna', yac', yen', yic', o', l', kS', d', pl', ys', yk', yn', yp', yf', yo', yi', yw', ya', y1', y2', yK', yW', yL', yq', nm', nv', no', yA', lf', rt', iK', iN') → wpY_start Q (yma, ypo, yhe, yvm, yin, yfi, yde, yap, yas, yto, yan, yco, yti, yna, yac, yen, yic, o, l, kS, d, pl, ys, yk, yn, yp, yf, yo, yi, yw, ya, y1, y2, yK, yW, yL, yq, nm, nv, no, yA, lf, rt, iK, iN) (nI g)) : cr_T v0 mk0 pd0 (yma', ypo', yhe', yvm', yin', yfi', yde', yap', yas', yto', yan', yco', yti', yna', yac', yen', yic', o', l', kS', d', pl', ys', yk', yn', yp', yf', yo', yi', yw', ya', y1', y2', yK', yW', yL', yq', nm', nv', no', yA', lf', rt', iK', iN') := by
  intro post hp
  obtain ⟨n, hp⟩ := hp
  refine h post ⟨n + 1, ?_⟩
  unfold wY_work_79
  rw [show yas - 1 = nI a by rw [ea, cr_as], nI_clamp (show a < 2 ^ 31 by omega), eq]
  refine br_t en (br_f (by decide) ⟨vp_in_nI (by omega) (by omega), hs _ ?_⟩)
  dsimp only
  unfold wY_work_132
  exact br_t (by rw [ea, ea']; exact nI_le (by omega) (by omega)) hp
theorem cr_FF {yma ypo yhe yvm : Int32} {yin : Int64} {yfi yde yap yas yto : Int32} {yan : Int64} {yco yti yna yac yen yic : Int32} {o l kS d : Nat → Int32} {pl ys : Nat → Int64} {yk yn yp yf yo : Nat → Int32} {yi : Nat → Int64} {yw ya y1 y2 : Nat → Int32} {yK : Nat → Int64} {yW : Nat → Int32} {yL : Nat → Int64} {yq nm : Nat → Int32} {nv : Nat → Int64} {no : Nat → Int32} {yA lf rt : Nat → Int64} {iK iN : Nat → Int32} {yma' ypo' yhe' yvm' : Int32} {yin' : Int64} {yfi' yde' yap' yas' yto' : Int32} {yan' : Int64} {yco' yti' yna' yac' yen' yic' : Int32} {o' l' kS' d' : Nat → Int32} {pl' ys' : Nat → Int64} {yk' yn' yp' yf' yo' : Nat → Int32} {yi' : Nat → Int64} {yw' ya' y1' y2' : Nat → Int32} {yK' : Nat → Int64} {yW' : Nat → Int32} {yL' : Nat → Int64} {yq' nm' : Nat → Int32} {nv' : Nat → Int64} {no' : Nat → Int32} {yA' lf' rt' : Nat → Int64} {iK' iN' : Nat → Int32} {a g : Nat} (h : cr_F v0 mk0 pd0 (yma, ypo, yhe, yvm, yin, yfi, yde, yap, yas, yto, yan, yco, yti, yna, yac, yen, yic, o, l, kS, d, pl, ys, yk, yn, yp, yf, yo, yi, yw, ya, y1, y2, yK, yW, yL, yq, nm, nv, no, yA, lf, rt, iK, iN)) (en : yen = -1000000004) (ea : yas = nI (a + 1)) (ha : a < 600) (eq : yq a = nI g) (ht : yti' = 0) (ea' : yas' = nI (a + 2))
    (hs : ∀ Q : SY → Prop, Q (yma', ypo', yhe', yvm', yin', yfi', yde', yap', yas', yto', yan', yco', yti', yna', yac', yen', yic', o', l', kS', d', pl', ys', yk', yn', yp', yf', yo', yi', yw', ya', y1', y2', yK', yW', yL', yq', nm', nv', no', yA', lf', rt', iK', iN') → wpY_start Q (yma, ypo, yhe, yvm, yin, yfi, yde, yap, yas, yto, yan, yco, yti, yna, yac, yen, yic, o, l, kS, d, pl, ys, yk, yn, yp, yf, yo, yi, yw, ya, y1, y2, yK, yW, yL, yq, nm, nv, no, yA, lf, rt, iK, iN) (nI g)) : cr_F v0 mk0 pd0 (yma', ypo', yhe', yvm', yin', yfi', yde', yap', yas', yto', yan', yco', yti', yna', yac', yen', yic', o', l', kS', d', pl', ys', yk', yn', yp', yf', yo', yi', yw', ya', y1', y2', yK', yW', yL', yq', nm', nv', no', yA', lf', rt', iK', iN') := by
  intro post hp
  obtain ⟨n, hp⟩ := hp
  refine h post ⟨n + 1, ?_⟩
  unfold wY_work_79
  rw [show yas - 1 = nI a by rw [ea, cr_as], nI_clamp (show a < 2 ^ 31 by omega), eq]
  refine br_t en (br_f (by decide) ⟨vp_in_nI (by omega) (by omega), hs _ ?_⟩)
  dsimp only
  unfold wY_work_132
  refine br_f (by rw [ea, ea']; exact nI_ge (by omega) (by omega)) ?_
  unfold wY_work_146
  exact br_t ht (br_f (by rw [ea']; exact nI_ne0 (by omega) (by omega)) hp)
/-- too much was counted -/
theorem cr_FE {yma ypo yhe yvm : Int32} {yin : Int64} {yfi yde yap yas yto : Int32} {yan : Int64} {yco yti yna yac yen yic : Int32} {o l kS d : Nat → Int32} {pl ys : Nat → Int64} {yk yn yp yf yo : Nat → Int32} {yi : Nat → Int64} {yw ya y1 y2 : Nat → Int32} {yK : Nat → Int64} {yW : Nat → Int32} {yL : Nat → Int64} {yq nm : Nat → Int32} {nv : Nat → Int64} {no : Nat → Int32} {yA lf rt : Nat → Int64} {iK iN : Nat → Int32} {yma' ypo' yhe' yvm' : Int32} {yin' : Int64} {yfi' yde' yap' yas' yto' : Int32} {yan' : Int64} {yco' yti' yna' yac' yen' yic' : Int32} {o' l' kS' d' : Nat → Int32} {pl' ys' : Nat → Int64} {yk' yn' yp' yf' yo' : Nat → Int32} {yi' : Nat → Int64} {yw' ya' y1' y2' : Nat → Int32} {yK' : Nat → Int64} {yW' : Nat → Int32} {yL' : Nat → Int64} {yq' nm' : Nat → Int32} {nv' : Nat → Int64} {no' : Nat → Int32} {yA' lf' rt' : Nat → Int64} {iK' iN' : Nat → Int32} {a g : Nat} (h : cr_F v0 mk0 pd0 (yma, ypo, yhe, yvm, yin, yfi, yde, yap, yas, yto, yan, yco, yti, yna, yac, yen, yic, o, l, kS, d, pl, ys, yk, yn, yp, yf, yo, yi, yw, ya, y1, y2, yK, yW, yL, yq, nm, nv, no, yA, lf, rt, iK, iN)) (en : yen = -1000000004) (ea : yas = nI (a + 1)) (ha : a < 600) (eq : yq a = nI g) (ht : yti' = 1)
    (hs : ∀ Q : SY → Prop, Q (yma', ypo', yhe', yvm', yin', yfi', yde', yap', yas', yto', yan', yco', yti', yna', yac', yen', yic', o', l', kS', d', pl', ys', yk', yn', yp', yf', yo', yi', yw', ya', y1', y2', yK', yW', yL', yq', nm', nv', no', yA', lf', rt', iK', iN') → wpY_start Q (yma, ypo, yhe, yvm, yin, yfi, yde, yap, yas, yto, yan, yco, yti, yna, yac, yen, yic, o, l, kS, d, pl, ys, yk, yn, yp, yf, yo, yi, yw, ya, y1, y2, yK, yW, yL, yq, nm, nv, no, yA, lf, rt, iK, iN) (nI g)) : cr_E v0 mk0 pd0 (yma', ypo', yhe', yvm', yin', yfi', yde', yap', yas', yto', yan', yco', yti', yna', yac', 3, yic', o', l', kS', d', pl', ys', yk', yn', yp', yf', yo', yi', yw', ya', y1', y2', yK', yW', yL', yq', nm', nv', no', yA', lf', rt', iK', iN') := by
  intro post hp
  refine h post ⟨2, ?_⟩
  have key : ∀ z : Int32, wY_work_146 post (wY_work_79 post (nI mk0) (nI pd0) 1) (nI mk0) (nI pd0) z yma' ypo' yhe' yvm' yin' yfi' yde' yap' yas' yto' yan' yco' yti' yna' yac' yen' yic' o' l' kS' d' pl' ys' yk' yn' yp' yf' yo' yi' yw' ya' y1' y2' yK' yW' yL' yq' nm' nv' no' yA' lf' rt' iK' iN' := by
    intro z
    unfold wY_work_146
    refine br_f (by rw [ht]; decide) ?_
    unfold wY_work_79
    exact br_f (by decide) hp
  unfold wY_work_79
  rw [show yas - 1 = nI a by rw [ea, cr_as], nI_clamp (show a < 2 ^ 31 by omega), eq]
  refine br_t en (br_f (by decide) ⟨vp_in_nI (by omega) (by omega), hs _ ?_⟩)
  dsimp only
  unfold wY_work_132
  exact br_c (fun _ => key 0) (fun _ => key 1)
theorem cr_TT {yma ypo yhe yvm : Int32} {yin : Int64} {yfi yde yap yas yto : Int32} {yan : Int64} {yco yti yna yac yen yic : Int32} {o l kS d : Nat → Int32} {pl ys : Nat → Int64} {yk yn yp yf yo : Nat → Int32} {yi : Nat → Int64} {yw ya y1 y2 : Nat → Int32} {yK : Nat → Int64} {yW : Nat → Int32} {yL : Nat → Int64} {yq nm : Nat → Int32} {nv : Nat → Int64} {no : Nat → Int32} {yA lf rt : Nat → Int64} {iK iN : Nat → Int32} {yma' ypo' yhe' yvm' : Int32} {yin' : Int64} {yfi' yde' yap' yas' yto' : Int32} {yan' : Int64} {yco' yti' yna' yac' yen' yic' : Int32} {o' l' kS' d' : Nat → Int32} {pl' ys' : Nat → Int64} {yk' yn' yp' yf' yo' : Nat → Int32} {yi' : Nat → Int64} {yw' ya' y1' y2' : Nat → Int32} {yK' : Nat → Int64} {yW' : Nat → Int32} {yL' : Nat → Int64} {yq' nm' : Nat → Int32} {nv' : Nat → Int64} {no' : Nat → Int32} {yA' lf' rt' : Nat → Int64} {iK' iN' : Nat → Int32} {a g : Nat} (h : cr_T v0 mk0 pd0 (yma, ypo, yhe, yvm, yin, yfi, yde, yap, yas, yto, yan, yco, yti, yna, yac, yen, yic, o, l, kS, d, pl, ys, yk, yn, yp, yf, yo, yi, yw, ya, y1, y2, yK, yW, yL, yq, nm, nv, no, yA, lf, rt, iK, iN)) (en : yen = -1000000004) (ht0 : yti = 0) (ea : yas = nI (a + 1)) (ha : a < 600) (eq : yq a = nI g) (ht : yti' = 0) (ea' : yas' = nI a)
    (hs : ∀ Q : SY → Prop, Q (yma', ypo', yhe', yvm', yin', yfi', yde', yap', yas', yto', yan', yco', yti', yna', yac', yen', yic', o', l', kS', d', pl', ys', yk', yn', yp', yf', yo', yi', yw', ya', y1', y2', yK', yW', yL', yq', nm', nv', no', yA', lf', rt', iK', iN') → wpY_goOn Q (yma, ypo, yhe, yvm, yin, yfi, yde, yap, yas, yto, yan, yco, yti, yna, yac, yen, yic, o, l, kS, d, pl, ys, yk, yn, yp, yf, yo, yi, yw, ya, y1, y2, yK, yW, yL, yq, nm, nv, no, yA, lf, rt, iK, iN) (nI g)) : cr_T v0 mk0 pd0 (yma', ypo', yhe', yvm', yin', yfi', yde', yap', yas', yto', yan', yco', yti', yna', yac', yen', yic', o', l', kS', d', pl', ys', yk', yn', yp', yf', yo', yi', yw', ya', y1', y2', yK', yW', yL', yq', nm', nv', no', yA', lf', rt', iK', iN') := by
  intro post hp
  obtain ⟨n, hp⟩ := hp
  refine h post ⟨n + 1, ?_⟩
  unfold wY_work_146
  refine br_t ht0 (br_f (by rw [ea]; exact nI_ne0 (by omega) (by omega)) ?_)
  unfold wY_work_79
  rw [show yas - 1 = nI a by rw [ea, cr_as], nI_clamp (show a < 2 ^ 31 by omega), eq]
  refine br_t en (br_t rfl ⟨vp_in_nI (by omega) (by omega), hs _ ?_⟩)
  dsimp only
  unfold wY_work_132
  exact br_t (by rw [ea, ea']; exact nI_le (by omega) (by omega)) hp
theorem cr_TF {yma ypo yhe yvm : Int32} {yin : Int64} {yfi yde yap yas yto : Int32} {yan : Int64} {yco yti yna yac yen yic : Int32} {o l kS d : Nat → Int32} {pl ys : Nat → Int64} {yk yn yp yf yo : Nat → Int32} {yi : Nat → Int64} {yw ya y1 y2 : Nat → Int32} {yK : Nat → Int64} {yW : Nat → Int32} {yL : Nat → Int64} {yq nm : Nat → Int32} {nv : Nat → Int64} {no : Nat → Int32} {yA lf rt : Nat → Int64} {iK iN : Nat → Int32} {yma' ypo' yhe' yvm' : Int32} {yin' : Int64} {yfi' yde' yap' yas' yto' : Int32} {yan' : Int64} {yco' yti' yna' yac' yen' yic' : Int32} {o' l' kS' d' : Nat → Int32} {pl' ys' : Nat → Int64} {yk' yn' yp' yf' yo' : Nat → Int32} {yi' : Nat → Int64} {yw' ya' y1' y2' : Nat → Int32} {yK' : Nat → Int64} {yW' : Nat → Int32} {yL' : Nat → Int64} {yq' nm' : Nat → Int32} {nv' : Nat → Int64} {no' : Nat → Int32} {yA' lf' rt' : Nat → Int64} {iK' iN' : Nat → Int32} {a g : Nat} (h : cr_T v0 mk0 pd0 (yma, ypo, yhe, yvm, yin, yfi, yde, yap, yas, yto, yan, yco, yti, yna, yac, yen, yic, o, l, kS, d, pl, ys, yk, yn, yp, yf, yo, yi, yw, ya, y1, y2, yK, yW, yL, yq, nm, nv, no, yA, lf, rt, iK, iN)) (en : yen = -1000000004) (ht0 : yti = 0) (ea : yas = nI (a + 1)) (ha : a < 600) (eq : yq a = nI g) (ht : yti' = 0) (ea' : yas' = nI (a + 2))
    (hs : ∀ Q : SY → Prop, Q (yma', ypo', yhe', yvm', yin', yfi', yde', yap', yas', yto', yan', yco', yti', yna', yac', yen', yic', o', l', kS', d', pl', ys', yk', yn', yp', yf', yo', yi', yw', ya', y1', y2', yK', yW', yL', yq', nm', nv', no', yA', lf', rt', iK', iN') → wpY_goOn Q (yma, ypo, yhe, yvm, yin, yfi, yde, yap, yas, yto, yan, yco, yti, yna, yac, yen, yic, o, l, kS, d, pl, ys, yk, yn, yp, yf, yo, yi, yw, ya, y1, y2, yK, yW, yL, yq, nm, nv, no, yA, lf, rt, iK, iN) (nI g)) : cr_F v0 mk0 pd0 (yma', ypo', yhe', yvm', yin', yfi', yde', yap', yas', yto', yan', yco', yti', yna', yac', yen', yic', o', l', kS', d', pl', ys', yk', yn', yp', yf', yo', yi', yw', ya', y1', y2', yK', yW', yL', yq', nm', nv', no', yA', lf', rt', iK', iN') := by
  intro post hp
  obtain ⟨n, hp⟩ := hp
  refine h post ⟨n + 1, ?_⟩
  unfold wY_work_146
  refine br_t ht0 (br_f (by rw [ea]; exact nI_ne0 (by omega) (by omega)) ?_)
  unfold wY_work_79
  rw [show yas - 1 = nI a by rw [ea, cr_as], nI_clamp (show a < 2 ^ 31 by omega), eq]
  refine br_t en (br_t rfl ⟨vp_in_nI (by omega) (by omega), hs _ ?_⟩)
  dsimp only
  unfold wY_work_132
  refine br_f (by rw [ea, ea']; exact nI_ge (by omega) (by omega)) ?_
  unfold wY_work_146
  exact br_t ht (br_f (by rw [ea']; exact nI_ne0 (by omega) (by omega)) hp)
theorem cr_TE {yma ypo yhe yvm : Int32} {yin : Int64} {yfi yde yap yas yto : Int32} {yan : Int64} {yco yti yna yac yen yic : Int32} {o l kS d : Nat → Int32} {pl ys : Nat → Int64} {yk yn yp yf yo : Nat → Int32} {yi : Nat → Int64} {yw ya y1 y2 : Nat → Int32} {yK : Nat → Int64} {yW : Nat → Int32} {yL : Nat → Int64} {yq nm : Nat → Int32} {nv : Nat → Int64} {no : Nat → Int32} {yA lf rt : Nat → Int64} {iK iN : Nat → Int32} {yma' ypo' yhe' yvm' : Int32} {yin' : Int64} {yfi' yde' yap' yas' yto' : Int32} {yan' : Int64} {yco' yti' yna' yac' yen' yic' : Int32} {o' l' kS' d' : Nat → Int32} {pl' ys' : Nat → Int64} {yk' yn' yp' yf' yo' : Nat → Int32} {yi' : Nat → Int64} {yw' ya' y1' y2' : Nat → Int32} {yK' : Nat → Int64} {yW' : Nat → Int32} {yL' : Nat → Int64} {yq' nm' : Nat → Int32} {nv' : Nat → Int64} {no' : Nat → Int32} {yA' lf' rt' : Nat → Int64} {iK' iN' : Nat → Int32} {a g : Nat} (h : cr_T v0 mk0 pd0 (yma, ypo, yhe, yvm, yin, yfi, yde, yap, yas, yto, yan, yco, yti, yna, yac, yen, yic, o, l, kS, d, pl, ys, yk, yn, yp, yf, yo, yi, yw, ya, y1, y2, yK, yW, yL, yq, nm, nv, no, yA, lf, rt, iK, iN)) (en : yen = -1000000004) (ht0 : yti = 0) (ea : yas = nI (a + 1)) (ha : a < 600) (eq : yq a = nI g) (ht : yti' = 1)
    (hs : ∀ Q : SY → Prop, Q (yma', ypo', yhe', yvm', yin', yfi', yde', yap', yas', yto', yan', yco', yti', yna', yac', yen', yic', o', l', kS', d', pl', ys', yk', yn', yp', yf', yo', yi', yw', ya', y1', y2', yK', yW', yL', yq', nm', nv', no', yA', lf', rt', iK', iN') → wpY_goOn Q (yma, ypo, yhe, yvm, yin, yfi, yde, yap, yas, yto, yan, yco, yti, yna, yac, yen, yic, o, l, kS, d, pl, ys, yk, yn, yp, yf, yo, yi, yw, ya, y1, y2, yK, yW, yL, yq, nm, nv, no, yA, lf, rt, iK, iN) (nI g)) : cr_E v0 mk0 pd0 (yma', ypo', yhe', yvm', yin', yfi', yde', yap', yas', yto', yan', yco', yti', yna', yac', 3, yic', o', l', kS', d', pl', ys', yk', yn', yp', yf', yo', yi', yw', ya', y1', y2', yK', yW', yL', yq', nm', nv', no', yA', lf', rt', iK', iN') := by
  intro post hp
  refine h post ⟨2, ?_⟩
  have key : ∀ z : Int32, wY_work_146 post (wY_work_79 post (nI mk0) (nI pd0) 1) (nI mk0) (nI pd0) z yma' ypo' yhe' yvm' yin' yfi' yde' yap' yas' yto' yan' yco' yti' yna' yac' yen' yic' o' l' kS' d' pl' ys' yk' yn' yp' yf' yo' yi' yw' ya' y1' y2' yK' yW' yL' yq' nm' nv' no' yA' lf' rt' iK' iN' := by
    intro z
    unfold wY_work_146
    refine br_f (by rw [ht]; decide) ?_
    unfold wY_work_79
    exact br_f (by decide) hp
  unfold wY_work_146
  refine br_t ht0 (br_f (by rw [ea]; exact nI_ne0 (by omega) (by omega)) ?_)
  unfold wY_work_79
  rw [show yas - 1 = nI a by rw [ea, cr_as], nI_clamp (show a < 2 ^ 31 by omega), eq]
  refine br_t en (br_t rfl ⟨vp_in_nI (by omega) (by omega), hs _ ?_⟩)
  dsimp only
  unfold wY_work_132
  exact br_c (fun _ => key 0) (fun _ => key 1)
/-- the whole filter has answered -/
theorem cr_R0 {yma ypo yhe yvm : Int32} {yin : Int64} {yfi yde yap yas yto : Int32} {yan : Int64} {yco yti yna yac yen yic : Int32} {o l kS d : Nat → Int32} {pl ys : Nat → Int64} {yk yn yp yf yo : Nat → Int32} {yi : Nat → Int64} {yw ya y1 y2 : Nat → Int32} {yK : Nat → Int64} {yW : Nat → Int32} {yL : Nat → Int64} {yq nm : Nat → Int32} {nv : Nat → Int64} {no : Nat → Int32} {yA lf rt : Nat → Int64} {iK iN : Nat → Int32} {a : Nat} (h : cr_T v0 mk0 pd0 (yma, ypo, yhe, yvm, yin, yfi, yde, yap, yas, yto, yan, yco, yti, yna, yac, yen, yic, o, l, kS, d, pl, ys, yk, yn, yp, yf, yo, yi, yw, ya, y1, y2, yK, yW, yL, yq, nm, nv, no, yA, lf, rt, iK, iN)) (en : yen = -1000000004) (ht0 : yti = 0) (ea : yas = nI 0) (eo : yto = 0) (ec : yac = nI a) (ha : a + 1 < 20) : cr_F v0 mk0 pd0 (yma, ypo, yhe, yvm, yin, yfi, yde, yap, (nI 1), yto, yan, yco, yti, yna, (nI (a + 1)), yen, yic, o, l, kS, d, pl, ys, yk, yn, yp, yf, yo, yi, yw, ya, y1, y2, yK, yW, yL, (upd yq 0 0), nm, nv, no, (vp_updL yA a yan), lf, rt, iK, iN) := by
  intro post hp
  obtain ⟨n, hp⟩ := hp
  refine h post ⟨n, ?_⟩
  unfold wY_work_146
  refine br_t ht0 (br_t ea ?_)
  unfold wpY_takeAnswer
  dsimp only
  rw [ec, nI_clamp (show a < 2 ^ 31 by omega)]
  refine br_t eo ⟨vp_in_nI (by omega) (by omega), nm_e (nm_r (nI_1 a) (br_f (fun z => absurd ((nI_eq (b := 20) (by omega) (by omega)).mp z) (by omega)) ?_))⟩
  unfold wY_takeAnswer_67
  exact yr_askAgain (a := 0) ea (by omega) hp
theorem cr_R20 {yma ypo yhe yvm : Int32} {yin : Int64} {yfi yde yap yas yto : Int32} {yan : Int64} {yco yti yna yac yen yic : Int32} {o l kS d : Nat → Int32} {pl ys : Nat → Int64} {yk yn yp yf yo : Nat → Int32} {yi : Nat → Int64} {yw ya y1 y2 : Nat → Int32} {yK : Nat → Int64} {yW : Nat → Int32} {yL : Nat → Int64} {yq nm : Nat → Int32} {nv : Nat → Int64} {no : Nat → Int32} {yA lf rt : Nat → Int64} {iK iN : Nat → Int32} (h : cr_T v0 mk0 pd0 (yma, ypo, yhe, yvm, yin, yfi, yde, yap, yas, yto, yan, yco, yti, yna, yac, yen, yic, o, l, kS, d, pl, ys, yk, yn, yp, yf, yo, yi, yw, ya, y1, y2, yK, yW, yL, yq, nm, nv, no, yA, lf, rt, iK, iN)) (en : yen = -1000000004) (ht0 : yti = 0) (ea : yas = nI 0) (eo : yto = 0) (ec : yac = nI 19) : ∀ w1 : Nat → Int32, (w1 = upd yq 0 0) → cr_E v0 mk0 pd0 (yma, ypo, yhe, yvm, yin, yfi, yde, yap, (nI 1), yto, yan, yco, yti, yna, (nI 20), 1, yic, o, l, kS, d, pl, ys, yk, yn, yp, yf, yo, yi, yw, ya, y1, y2, yK, yW, yL, w1, nm, nv, no, (vp_updL yA 19 yan), lf, rt, iK, iN) := by
  intro w1 e1 post hp
  subst e1
  refine h post ⟨1, ?_⟩
  unfold wY_work_146
  refine br_t ht0 (br_t ea ?_)
  unfold wpY_takeAnswer
  dsimp only
  rw [ec, nI_clamp (show 19 < 2 ^ 31 by omega)]
  refine br_t eo ⟨vp_in_nI (by omega) (by omega), nm_e (nm_r (nI_1 19) (br_t rfl ?_))⟩
  unfold wY_takeAnswer_67
  refine yr_askAgain (a := 0) ea (by omega) ?_
  dsimp only
  unfold wY_work_79
  exact br_f (by decide) hp
theorem cr_R1 {yma ypo yhe yvm : Int32} {yin : Int64} {yfi yde yap yas yto : Int32} {yan : Int64} {yco yti yna yac yen yic : Int32} {o l kS d : Nat → Int32} {pl ys : Nat → Int64} {yk yn yp yf yo : Nat → Int32} {yi : Nat → Int64} {yw ya y1 y2 : Nat → Int32} {yK : Nat → Int64} {yW : Nat → Int32} {yL : Nat → Int64} {yq nm : Nat → Int32} {nv : Nat → Int64} {no : Nat → Int32} {yA lf rt : Nat → Int64} {iK iN : Nat → Int32} (h : cr_T v0 mk0 pd0 (yma, ypo, yhe, yvm, yin, yfi, yde, yap, yas, yto, yan, yco, yti, yna, yac, yen, yic, o, l, kS, d, pl, ys, yk, yn, yp, yf, yo, yi, yw, ya, y1, y2, yK, yW, yL, yq, nm, nv, no, yA, lf, rt, iK, iN)) (ht0 : yti = 0) (ea : yas = nI 0) (eo : yto = 1 ∨ yto = 2) {e : Int32} (he : (yto = 1 → e = 0) ∧ (yto = 2 → e = 2)) : cr_E v0 mk0 pd0 (yma, ypo, yhe, yvm, yin, yfi, yde, yap, yas, yto, yan, yco, yti, yna, yac, e, yic, o, l, kS, d, pl, ys, yk, yn, yp, yf, yo, yi, yw, ya, y1, y2, yK, yW, yL, yq, nm, nv, no, yA, lf, rt, iK, iN) := by
  intro post hp
  refine h post ⟨1, ?_⟩
  unfold wY_work_146
  refine br_t ht0 (br_t ea ?_)
  unfold wpY_takeAnswer
  dsimp only
  rcases eo with z | z
  · rw [he.1 z] at hp
    refine br_f (by rw [z]; decide) (br_t z ?_)
    unfold wY_work_79
    exact br_f (by decide) hp
  · rw [he.2 z] at hp
    refine br_f (by rw [z]; decide) (br_f (by rw [z]; decide) ?_)
    unfold wY_work_79
    exact br_f (by decide) hp
end
end
section
/-! ===== X's steps ===== -/
def rn_K (post : SX → Prop) (st : Nat) : SX → Prop := fun u => match u with
  | (xst, xow, xin, xpa, xfi, xfr, xno, xsi, xan, xkn, xen, xco, xrm, xac, K, N, Z, D, Im, W, P, vS, pO, pX, pI, fS, fP, fI, fU, fR, fO, fA, fH, fG, fN, aS, qL, qR, qP) => ∀ z : Int32, z = nI st + 1 → wX_workOut_68 post (1000000 - st) z xst xow xin xpa xfi xfr xno xsi xan xkn xen xco xrm xac K N Z D Im W P vS pO pX pI fS fP fI fU fR fO fA fH fG fN aS qL qR qP
theorem rn_K_i {xst xow xin xpa xfi xfr xno xsi xan xkn xen xco xrm xac : Int32} {K N Z D Im W P vS pO pX pI fS fP fI fU fR fO fA fH fG fN aS qL qR qP : Nat → Int32} {post : SX → Prop} {st : Nat} (h : wX_workOut_68 post (1000001 - (st + 1)) (nI (st + 1)) xst xow xin xpa xfi xfr xno xsi xan xkn xen xco xrm xac K N Z D Im W P vS pO pX pI fS fP fI fU fR fO fA fH fG fN aS qL qR qP) : rn_K post st (xst, xow, xin, xpa, xfi, xfr, xno, xsi, xan, xkn, xen, xco, xrm, xac, K, N, Z, D, Im, W, P, vS, pO, pX, pI, fS, fP, fI, fU, fR, fO, fA, fH, fG, fN, aS, qL, qR, qP) := by
  show ∀ z : Int32, z = nI st + 1 → wX_workOut_68 post (1000000 - st) z xst xow xin xpa xfi xfr xno xsi xan xkn xen xco xrm xac K N Z D Im W P vS pO pX pI fS fP fI fU fR fO fA fH fG fN aS qL qR qP
  rw [show 1000001 - (st + 1) = 1000000 - st by omega] at h
  exact nm_r (nI_1 st) h
theorem xs_ask {xst xow xin xpa xfi xfr xno xsi xan xkn xen xco xrm xac : Int32} {K N Z D Im W P vS pO pX pI fS fP fI fU fR fO fA fH fG fN aS qL qR qP : Nat → Int32} {post : SX → Prop} {st : Nat} (hst : st < 1000000) (en : xen = -1) (es : xsi = 0) (h : wpX_ask (rn_K post st) (xst, xow, xin, xpa, xfi, xfr, xno, xsi, xan, xkn, xen, xco, xrm, xac, K, N, Z, D, Im, W, P, vS, pO, pX, pI, fS, fP, fI, fU, fR, fO, fA, fH, fG, fN, aS, qL, qR, qP)) : wX_workOut_68 post (1000001 - st) (nI st) xst xow xin xpa xfi xfr xno xsi xan xkn xen xco xrm xac K N Z D Im W P vS pO pX pI fS fP fI fU fR fO fA fH fG fN aS qL qR qP := by
  rw [show 1000001 - st = (1000000 - st) + 1 by omega]
  unfold wX_workOut_68
  exact br_f (nI_ge (b := 1000000) hst (by omega)) (br_t en (br_t es h))
theorem xs_leaf {xst xow xin xpa xfi xfr xno xsi xan xkn xen xco xrm xac : Int32} {K N Z D Im W P vS pO pX pI fS fP fI fU fR fO fA fH fG fN aS qL qR qP : Nat → Int32} {post : SX → Prop} {st : Nat} (hst : st < 1000000) (en : xen = -1) (es : xsi = 4) (h : wpX_answerLeaf (rn_K post st) (xst, xow, xin, xpa, xfi, xfr, xno, xsi, xan, xkn, xen, xco, xrm, xac, K, N, Z, D, Im, W, P, vS, pO, pX, pI, fS, fP, fI, fU, fR, fO, fA, fH, fG, fN, aS, qL, qR, qP)) : wX_workOut_68 post (1000001 - st) (nI st) xst xow xin xpa xfi xfr xno xsi xan xkn xen xco xrm xac K N Z D Im W P vS pO pX pI fS fP fI fU fR fO fA fH fG fN aS qL qR qP := by
  rw [show 1000001 - st = (1000000 - st) + 1 by omega]
  unfold wX_workOut_68
  exact br_f (nI_ge (b := 1000000) hst (by omega)) (br_t en (br_f (by rw [es]; decide) (br_t es h)))
theorem xs_make {xst xow xin xpa xfi xfr xno xsi xan xkn xen xco xrm xac : Int32} {K N Z D Im W P vS pO pX pI fS fP fI fU fR fO fA fH fG fN aS qL qR qP : Nat → Int32} {post : SX → Prop} {st : Nat} (hst : st < 1000000) (en : xen = -1) (es : xsi = 5) (h : wpX_makeCounted (rn_K post st) (xst, xow, xin, xpa, xfi, xfr, xno, xsi, xan, xkn, xen, xco, xrm, xac, K, N, Z, D, Im, W, P, vS, pO, pX, pI, fS, fP, fI, fU, fR, fO, fA, fH, fG, fN, aS, qL, qR, qP)) : wX_workOut_68 post (1000001 - st) (nI st) xst xow xin xpa xfi xfr xno xsi xan xkn xen xco xrm xac K N Z D Im W P vS pO pX pI fS fP fI fU fR fO fA fH fG fN aS qL qR qP := by
  rw [show 1000001 - st = (1000000 - st) + 1 by omega]
  unfold wX_workOut_68
  exact br_f (nI_ge (b := 1000000) hst (by omega)) (br_t en (br_f (by rw [es]; decide) (br_f (by rw [es]; decide) (br_t es h))))
theorem xs_whole {xst xow xin xpa xfi xfr xno xsi xan xkn xen xco xrm xac : Int32} {K N Z D Im W P vS pO pX pI fS fP fI fU fR fO fA fH fG fN aS qL qR qP : Nat → Int32} {post : SX → Prop} {st g : Nat} (hst : st < 1000000) (en : xen = -1) (es : xsi = 1 ∨ xsi = 2 ∨ xsi = 3) (eg : xno = nI g) (hg : g < 600) (eU : fU g = -1) (h : wpX_hearWhole (rn_K post st) (xst, xow, xin, xpa, xfi, xfr, xno, xsi, xan, xkn, xen, xco, xrm, xac, K, N, Z, D, Im, W, P, vS, pO, pX, pI, fS, fP, fI, fU, fR, fO, fA, fH, fG, fN, aS, qL, qR, qP)) : wX_workOut_68 post (1000001 - st) (nI st) xst xow xin xpa xfi xfr xno xsi xan xkn xen xco xrm xac K N Z D Im W P vS pO pX pI fS fP fI fU fR fO fA fH fG fN aS qL qR qP := by
  have n0 : ¬ xsi = 0 ∧ ¬ xsi = 4 ∧ ¬ xsi = 5 := by
    rcases es with z | z | z <;> rw [z] <;> decide
  rw [show 1000001 - st = (1000000 - st) + 1 by omega]
  unfold wX_workOut_68
  have eg' : xno.toNatClampNeg = g := by rw [eg, nI_clamp (by omega)]
  rw [eg']
  exact br_f (nI_ge (b := 1000000) hst (by omega)) (br_t en (br_f n0.1 (br_f n0.2.1 (br_f n0.2.2 ⟨by rw [eg]; exact vp_in_nI hg (by omega), br_t eU h⟩))))
theorem xs_inner {xst xow xin xpa xfi xfr xno xsi xan xkn xen xco xrm xac : Int32} {K N Z D Im W P vS pO pX pI fS fP fI fU fR fO fA fH fG fN aS qL qR qP : Nat → Int32} {post : SX → Prop} {st g p : Nat} (hst : st < 1000000) (en : xen = -1) (es : xsi = 1 ∨ xsi = 2 ∨ xsi = 3) (eg : xno = nI g) (hg : g < 600) (eU : fU g = nI p) (hp : p < 600) (h : wpX_hearInner (rn_K post st) (xst, xow, xin, xpa, xfi, xfr, xno, xsi, xan, xkn, xen, xco, xrm, xac, K, N, Z, D, Im, W, P, vS, pO, pX, pI, fS, fP, fI, fU, fR, fO, fA, fH, fG, fN, aS, qL, qR, qP)) : wX_workOut_68 post (1000001 - st) (nI st) xst xow xin xpa xfi xfr xno xsi xan xkn xen xco xrm xac K N Z D Im W P vS pO pX pI fS fP fI fU fR fO fA fH fG fN aS qL qR qP := by
  have n0 : ¬ xsi = 0 ∧ ¬ xsi = 4 ∧ ¬ xsi = 5 := by
    rcases es with z | z | z <;> rw [z] <;> decide
  rw [show 1000001 - st = (1000000 - st) + 1 by omega]
  unfold wX_workOut_68
  have eg' : xno.toNatClampNeg = g := by rw [eg, nI_clamp (by omega)]
  rw [eg', eU]
  exact br_f (nI_ge (b := 1000000) hst (by omega)) (br_t en (br_f n0.1 (br_f n0.2.1 (br_f n0.2.2 ⟨by rw [eg]; exact vp_in_nI hg (by omega), br_f (fr_n1 hp) h⟩))))
/-- the loop ends -/
theorem xs_end {xst xow xin xpa xfi xfr xno xsi xan xkn xen xco xrm xac : Int32} {K N Z D Im W P vS pO pX pI fS fP fI fU fR fO fA fH fG fN aS qL qR qP : Nat → Int32} {post : SX → Prop} {st : Nat} (hst : st < 1000001) (en : ¬ xen = -1) (h : post (xst, xow, xin, xpa, xfi, xfr, xno, xsi, xan, xkn, xen, xco, xrm, xac, K, N, Z, D, Im, W, P, vS, pO, pX, pI, fS, fP, fI, fU, fR, fO, fA, fH, fG, fN, aS, qL, qR, qP)) : wX_workOut_68 post (1000001 - st) (nI st) xst xow xin xpa xfi xfr xno xsi xan xkn xen xco xrm xac K N Z D Im W P vS pO pX pI fS fP fI fU fR fO fA fH fG fN aS qL qR qP := by
  rw [show 1000001 - st = (1000000 - st) + 1 by omega]
  unfold wX_workOut_68
  exact br_c (fun _ => h) (fun _ => br_f en h)
/-! asked -/
section
/-- whether the frame at hand is through -/
theorem xa_isThrough {xst xow xin xpa xfi xfr xno xsi xan xkn xen xco xrm xac : Int32} {K N Z D Im W P vS pO pX pI fS fP fI fU fR fO fA fH fG fN aS qL qR qP : Nat → Int32} {post : Int32 → Prop} {g q oq x gv : Nat} (eg : xno = nI g) (hg : g < 600) (eP : fP g = nI q) (hq : q < 40) (ho : oq ≤ 35) (eG : fG g = nI gv) (hgv : gv < 2 ^ 31)
    (h18 : oq = 18 → pX q = nI x ∧ x < 10 ∧ (gv < x → post 0) ∧ (x ≤ gv → post 1))
    (h1 : oq ≠ 18 → (oq < 16 ∨ oq = 16 ∨ oq = 35) → (gv = 0 → post 0) ∧ (0 < gv → post 1))
    (h0 : oq ≠ 18 → ¬ (oq < 16 ∨ oq = 16 ∨ oq = 35) → post 0) : wpX_isThrough post (xst, xow, xin, xpa, xfi, xfr, xno, xsi, xan, xkn, xen, xco, xrm, xac, K, N, Z, D, Im, W, P, vS, pO, pX, pI, fS, fP, fI, fU, fR, fO, fA, fH, fG, fN, aS, qL, qR, qP) (nI oq) := by
  subst eg
  have eg' : (nI g).toNatClampNeg = g := nI_clamp (by omega)
  have hin : vp_in (nI g) 600 := vp_in_nI hg (by omega)
  have k56 : oq ≠ 18 → (oq < 16 ∨ oq = 16 ∨ oq = 35) → wX_isThrough_56 post xst xow xin xpa xfi xfr (nI g) xsi xan xkn xen xco xrm xac K N Z D Im W P vS pO pX pI fS fP fI fU fR fO fA fH fG fN aS qL qR qP := by
    intro n18 hz
    unfold wX_isThrough_56
    rw [eg', eG]
    refine ⟨hin, pk_le gv 0 (fun z => (h1 n18 hz).1 (by omega)) (fun z => (h1 n18 hz).2 z)⟩
  unfold wpX_isThrough
  dsimp only
  rw [eg', eP, nI_clamp (show q < 2 ^ 31 by omega), eG]
  refine pk_eq oq 18 (fun e => ?_) (fun n18 => pk_lt oq 16 (fun z => k56 n18 (Or.inl z)) (fun z => pk_eq oq 16 (fun e => k56 n18 (Or.inr (Or.inl e))) (fun n16 => pk_eq oq 35 (fun e => k56 n18 (Or.inr (Or.inr e))) (fun n35 => h0 n18 (fun w => by omega)))))
  obtain ⟨e1, e2, e3, e4⟩ := h18 e
  rw [e1]
  exact ⟨hin, hin, vp_in_nI hq (by omega), pk_lt gv x e3 e4⟩
/-- asked, and through: it ends -/
theorem xa_through {xst xow xin xpa xfi xfr xno xsi xan xkn xen xco xrm xac : Int32} {K N Z D Im W P vS pO pX pI fS fP fI fU fR fO fA fH fG fN aS qL qR qP : Nat → Int32} {post : SX → Prop} {g q oq x gv : Nat} (eg : xno = nI g) (hg : g < 600) (eP : fP g = nI q) (hq : q < 40) (eO : pO q = nI oq) (ho : oq ≤ 35) (n7 : oq ≠ 7) (n15 : oq ≠ 15) (eG : fG g = nI gv) (hgv : gv < 2 ^ 31)
    (ht : (oq = 18 ∧ pX q = nI x ∧ x < 10 ∧ x ≤ gv) ∨ ((oq < 16 ∨ oq = 16 ∨ oq = 35) ∧ 0 < gv)) (hp : post (xst, xow, xin, xpa, xfi, xfr, xno, 2, xan, xkn, xen, xco, xrm, xac, K, N, Z, D, Im, W, P, vS, pO, pX, pI, fS, fP, fI, fU, fR, fO, fA, fH, fG, fN, aS, qL, qR, qP)) : wpX_ask post (xst, xow, xin, xpa, xfi, xfr, xno, xsi, xan, xkn, xen, xco, xrm, xac, K, N, Z, D, Im, W, P, vS, pO, pX, pI, fS, fP, fI, fU, fR, fO, fA, fH, fG, fN, aS, qL, qR, qP) := by
  have eg' : xno.toNatClampNeg = g := by rw [eg, nI_clamp (by omega)]
  have hin : vp_in xno 600 := by rw [eg]; exact vp_in_nI hg (by omega)
  unfold wpX_ask
  dsimp only
  rw [eg', eP, nI_clamp (show q < 2 ^ 31 by omega), eO]
  refine ⟨hin, vp_in_nI hq (by omega), nm_e (br_f (fun z => n7 ((nI_eq (b := 7) (by omega) (by omega)).mp z)) (br_f (fun z => n15 ((nI_eq (b := 15) (by omega) (by omega)).mp z)) ?_))⟩
  refine xa_isThrough (x := x) eg hg eP hq ho eG hgv (fun e => ?_) (fun n18 hz => ⟨fun z => ?_, fun _ => br_f (by decide) hp⟩) (fun n18 hz => ?_)
  · rcases ht with ⟨_, a, b, c⟩ | ⟨a, _⟩
    · exact ⟨a, b, fun z => absurd z (by omega), fun _ => br_f (by decide) hp⟩
    · omega
  · rcases ht with ⟨a, _⟩ | ⟨_, a⟩ <;> omega
  · rcases ht with ⟨a, _⟩ | ⟨a, _⟩
    · omega
    · exact absurd a hz
/-- asked, not through -/
theorem xa_go {xst xow xin xpa xfi xfr xno xsi xan xkn xen xco xrm xac : Int32} {K N Z D Im W P vS pO pX pI fS fP fI fU fR fO fA fH fG fN aS qL qR qP : Nat → Int32} {post : SX → Prop} {g q oq x gv : Nat} (eg : xno = nI g) (hg : g < 600) (eP : fP g = nI q) (hq : q < 40) (eO : pO q = nI oq) (ho : oq ≤ 35) (n7 : oq ≠ 7) (n15 : oq ≠ 15) (eG : fG g = nI gv) (hgv : gv < 2 ^ 31)
    (h18 : oq = 18 → pX q = nI x ∧ x < 10 ∧ gv < x) (h1 : (oq < 16 ∨ oq = 16 ∨ oq = 35) → gv = 0)
    (hl : oq < 16 → post (xst, xow, xin, xpa, xfi, xfr, xno, 4, xan, xkn, xen, xco, xrm, xac, K, N, Z, D, Im, W, P, vS, pO, pX, pI, fS, fP, fI, fU, fR, fO, fA, fH, (upd fG g 1), fN, aS, qL, qR, qP)) (hd : 16 ≤ oq → ¬ fA g = -1 → post (xst, xow, xin, xpa, xfi, xfr, (fA g), xsi, xan, xkn, xen, xco, xrm, xac, K, N, Z, D, Im, W, P, vS, pO, pX, pI, fS, fP, fI, fU, fR, fO, fA, fH, fG, fN, aS, qL, qR, qP)) (hb : 16 ≤ oq → fA g = -1 → wpX_begin post (xst, xow, xin, xpa, xfi, xfr, xno, xsi, xan, xkn, xen, xco, xrm, xac, K, N, Z, D, Im, W, P, vS, pO, pX, pI, fS, fP, fI, fU, fR, fO, fA, fH, fG, fN, aS, qL, qR, qP) (nI oq)) : wpX_ask post (xst, xow, xin, xpa, xfi, xfr, xno, xsi, xan, xkn, xen, xco, xrm, xac, K, N, Z, D, Im, W, P, vS, pO, pX, pI, fS, fP, fI, fU, fR, fO, fA, fH, fG, fN, aS, qL, qR, qP) := by
  have eg' : xno.toNatClampNeg = g := by rw [eg, nI_clamp (by omega)]
  have hin : vp_in xno 600 := by rw [eg]; exact vp_in_nI hg (by omega)
  have fin : (((0 : Int32) = 0 → (((15 < nI oq → (vp_in xno 600 ∧ (((fA g = (-1) → (wpX_begin post (xst, xow, xin, xpa, xfi, xfr, xno, xsi, xan, xkn, xen, xco, xrm, xac, K, N, Z, D, Im, W, P, vS, pO, pX, pI, fS, fP, fI, fU, fR, fO, fA, fH, fG, fN, aS, qL, qR, qP) (nI oq))) ∧ (¬ fA g = (-1) → (vp_in xno 600 ∧ (∀ y, y = fA g → post (xst, xow, xin, xpa, xfi, xfr, y, xsi, xan, xkn, xen, xco, xrm, xac, K, N, Z, D, Im, W, P, vS, pO, pX, pI, fS, fP, fI, fU, fR, fO, fA, fH, fG, fN, aS, qL, qR, qP)))))))) ∧ (¬ 15 < nI oq → (vp_in xno 600 ∧ (∀ y, y = upd fG g 1 → post (xst, xow, xin, xpa, xfi, xfr, xno, 4, xan, xkn, xen, xco, xrm, xac, K, N, Z, D, Im, W, P, vS, pO, pX, pI, fS, fP, fI, fU, fR, fO, fA, fH, y, fN, aS, qL, qR, qP))))))) ∧ (¬ (0 : Int32) = 0 → (post (xst, xow, xin, xpa, xfi, xfr, xno, 2, xan, xkn, xen, xco, xrm, xac, K, N, Z, D, Im, W, P, vS, pO, pX, pI, fS, fP, fI, fU, fR, fO, fA, fH, fG, fN, aS, qL, qR, qP)))) := by
    refine br_t rfl (pk_lt 15 oq (fun z => ⟨hin, br_c (fun e => hb z e) (fun ne => ⟨hin, nm_e (hd z ne)⟩)⟩) (fun z => ⟨hin, nm_e (hl (by omega))⟩))
  unfold wpX_ask
  dsimp only
  rw [eg', eP, nI_clamp (show q < 2 ^ 31 by omega), eO]
  refine ⟨hin, vp_in_nI hq (by omega), nm_e (br_f (fun z => n7 ((nI_eq (b := 7) (by omega) (by omega)).mp z)) (br_f (fun z => n15 ((nI_eq (b := 15) (by omega) (by omega)).mp z)) ?_))⟩
  refine xa_isThrough (x := x) eg hg eP hq ho eG hgv (fun e => ?_) (fun n18 hz => ⟨fun _ => fin, fun z => ?_⟩) (fun n18 hz => fin)
  · obtain ⟨a, b, c⟩ := h18 e
    exact ⟨a, b, fun _ => fin, fun z => absurd z (by omega)⟩
  · have := h1 hz
    omega
end
end
section
/-! ===== X: each, deep, beginning ===== -/
theorem xa_each {xst xow xin xpa xfi xfr xno xsi xan xkn xen xco xrm xac : Int32} {K N Z D Im W P vS pO pX pI fS fP fI fU fR fO fA fH fG fN aS qL qR qP : Nat → Int32} {post : SX → Prop} {g q s κ gv z c : Nat} (eg : xno = nI g) (hg : g < 600) (eP : fP g = nI q) (hq : q < 40) (eO : pO q = nI 7) (eI : fI g = nI s) (hs : s < 653) (eK : K s = nI κ) (hκ : κ ≤ 5) (eG : fG g = nI gv) (hgv : gv ≤ 10) (eZ : Z s = nI z) (hz : z ≤ 10) (ec : xco = nI c) (hc : c ≤ 600)
    (h3 : κ ≤ 3 → post (xst, xow, xin, xpa, xfi, xfr, xno, 3, xan, xkn, xen, xco, xrm, xac, K, N, Z, D, Im, W, P, vS, pO, pX, pI, fS, fP, fI, fU, fR, fO, fA, fH, fG, fN, aS, qL, qR, qP)) (h2 : 3 < κ → z ≤ gv → post (xst, xow, xin, xpa, xfi, xfr, xno, 2, xan, xkn, xen, xco, xrm, xac, K, N, Z, D, Im, W, P, vS, pO, pX, pI, fS, fP, fI, fU, fR, fO, fA, fH, fG, fN, aS, qL, qR, qP)) (ht : 3 < κ → gv < z → c = 600 → post (xst, xow, xin, xpa, xfi, xfr, xno, xsi, xan, xkn, 3, xco, xrm, xac, K, N, Z, D, Im, W, P, vS, pO, pX, pI, fS, fP, fI, fU, fR, fO, fA, fH, fG, fN, aS, qL, qR, qP))
    (h1 : 3 < κ → gv < z → c < 600 → post (xst, xow, xin, xpa, xfi, xfr, xno, 1, (P (s * 10 + gv)), xkn, xen, (nI (c + 1)), xrm, xac, K, N, Z, D, Im, W, P, vS, pO, pX, pI, fS, fP, fI, fU, fR, fO, fA, fH, (upd fG g (nI (gv + 1))), fN, aS, qL, qR, qP)) : wpX_ask post (xst, xow, xin, xpa, xfi, xfr, xno, xsi, xan, xkn, xen, xco, xrm, xac, K, N, Z, D, Im, W, P, vS, pO, pX, pI, fS, fP, fI, fU, fR, fO, fA, fH, fG, fN, aS, qL, qR, qP) := by
  subst eg
  have eg' : (nI g).toNatClampNeg = g := nI_clamp (by omega)
  have hin : vp_in (nI g) 600 := vp_in_nI hg (by omega)
  have his : vp_in (nI s) 653 := vp_in_nI hs (by omega)
  have es : (nI s).toNatClampNeg = s := nI_clamp (by omega)
  unfold wpX_ask
  dsimp only
  rw [eg', eP, nI_clamp (show q < 2 ^ 31 by omega), eO]
  refine ⟨hin, vp_in_nI hq (by omega), nm_e (br_t rfl ?_)⟩
  unfold wpX_nextOfEach
  dsimp only
  rw [eg', eI, eG]
  refine ⟨hin, nm_e ⟨hin, nm_e ⟨his, ?_⟩⟩⟩
  rw [es, eK, eZ]
  refine pk_lt 3 κ (fun k3 => ⟨his, pk_lt gv z (fun hlt => ?_) (fun hge => h2 k3 hge)⟩) (fun k3 => h3 k3)
  by_cases c6 : c = 600
  · subst c6
    exact xr_tired ec (br_t rfl (ht k3 hlt rfl))
  · refine xr_counts ec (by omega) ?_
    dsimp only
    rw [eg', eG, xi_10, nI_clamp (show s * 10 + gv < 2 ^ 31 by omega), nI_1]
    exact br_f (by decide) ⟨hin, hin, nm_e ⟨vp_in_nI (by omega) (by omega), xr_give (h1 k3 hlt (by omega))⟩⟩
theorem xa_deep {xst xow xin xpa xfi xfr xno xsi xan xkn xen xco xrm xac : Int32} {K N Z D Im W P vS pO pX pI fS fP fI fU fR fO fA fH fG fN aS qL qR qP : Nat → Int32} {V : Nat → Prop} {post : SX → Prop} {g q s gv w c : Nat} (hx : vv_ox V K N Z D Im W P) (eg : xno = nI g) (hg : g < 600) (eP : fP g = nI q) (hq : q < 40) (eO : pO q = nI 15) (eI : fI g = nI s) (hV : V s) (eG : fG g = nI gv) (hgv : gv ≤ 23332) (eW : W s = nI w) (hw : w ≤ 23332) (ec : xco = nI c) (hc : c ≤ 600)
    (h2 : w ≤ gv → post (xst, xow, xin, xpa, xfi, xfr, xno, 2, xan, xkn, xen, xco, xrm, xac, K, N, Z, D, Im, W, P, vS, pO, pX, pI, fS, fP, fI, fU, fR, fO, fA, fH, fG, fN, aS, qL, qR, qP)) (ht : gv < w → c = 600 → post (xst, xow, xin, xpa, xfi, xfr, xno, xsi, xan, xkn, 3, xco, xrm, xac, K, N, Z, D, Im, W, P, vS, pO, pX, pI, fS, fP, fI, fU, fR, fO, fA, fH, fG, fN, aS, qL, qR, qP))
    (h1 : gv < w → c < 600 → ∃ p, dp_ok Z P p s ∧ p.length ≤ 4 ∧ dp_ix W P p s = gv ∧ post (xst, xow, xin, xpa, xfi, xfr, xno, 1, (nI (dp_at P p s)), xkn, xen, (nI (c + 1)), xrm, xac, K, N, Z, D, Im, W, P, vS, pO, pX, pI, fS, fP, fI, fU, fR, fO, fA, fH, (upd fG g (nI (gv + 1))), fN, aS, qL, qR, qP)) : wpX_ask post (xst, xow, xin, xpa, xfi, xfr, xno, xsi, xan, xkn, xen, xco, xrm, xac, K, N, Z, D, Im, W, P, vS, pO, pX, pI, fS, fP, fI, fU, fR, fO, fA, fH, fG, fN, aS, qL, qR, qP) := by
  subst eg
  have hs := (hx s hV).1
  have eg' : (nI g).toNatClampNeg = g := nI_clamp (by omega)
  have hin : vp_in (nI g) 600 := vp_in_nI hg (by omega)
  have his : vp_in (nI s) 653 := vp_in_nI hs (by omega)
  have es : (nI s).toNatClampNeg = s := nI_clamp (by omega)
  unfold wpX_ask
  dsimp only
  rw [eg', eP, nI_clamp (show q < 2 ^ 31 by omega), eO]
  refine ⟨hin, vp_in_nI hq (by omega), nm_e (br_f (by decide) (br_t rfl ?_))⟩
  unfold wpX_nextOfDeep
  dsimp only
  rw [eg', eI, eG]
  refine ⟨hin, nm_e ⟨hin, nm_e ⟨his, ?_⟩⟩⟩
  rw [es, eW]
  refine pk_lt gv w (fun hlt => ?_) (fun hge => h2 hge)
  by_cases c6 : c = 600
  · subst c6
    exact xr_tired ec (br_t rfl (ht hlt rfl))
  · obtain ⟨p, p1, p2, p3, p4⟩ := h1 hlt (by omega)
    refine xr_counts ec (by omega) ?_
    dsimp only
    rw [eg', eG, nI_1]
    refine br_f (by decide) ⟨hin, hin, nm_e ?_⟩
    rw [← p3]
    rw [← p3] at p4
    exact xm_within hx hV p1 p2 (xr_give p4)
theorem xa_begin {xst xow xin xpa xfi xfr xno xsi xan xkn xen xco xrm xac : Int32} {K N Z D Im W P vS pO pX pI fS fP fI fU fR fO fA fH fG fN aS qL qR qP : Nat → Int32} {post : SX → Prop} {n c g q oq : Nat} (eg : xno = nI g) (efr : xfr = nI n) (eco : xco = nI c) (hn : n < 600) (hc : c < 600) (hg : g < n) (eP : fP g = nI q) (hq : q < 40) (ho : oq ≤ 35) (n16 : oq ≠ 16)
    (h0 : oq ≠ 35 → post (xst, xow, xin, xpa, xfi, (nI (n + 1)), (nI n), 0, xan, xkn, xen, (nI (c + 1)), xrm, xac, K, N, Z, D, Im, W, P, vS, pO, pX, pI, fS, (upd fP n (pI (q * 3 + 0))), (upd fI n (fI g)), (upd fU n (nI g)), (upd fR n (nI 0)), (upd (upd fO n (-1)) g (nI n)), (upd (upd fA n (-1)) g (nI n)), (upd fH n 0), (upd fG n 0), (fn_c fN n g 3), aS, qL, qR, qP))
    (h1 : oq = 35 → post (xst, xow, xin, xpa, xfi, (nI (n + 1)), (nI n), 0, xan, xkn, xen, (nI (c + 1)), xrm, xac, K, N, Z, D, Im, W, P, vS, pO, pX, pI, fS, (upd fP n (pI (q * 3 + 1))), (upd fI n (fI g)), (upd fU n (nI g)), (upd fR n (nI 1)), (upd fO n (-1)), (upd (upd fA n (-1)) g (nI n)), (upd fH n 0), (upd fG n 0), (fn_c fN n g 3), aS, qL, qR, qP)) : wpX_begin post (xst, xow, xin, xpa, xfi, xfr, xno, xsi, xan, xkn, xen, xco, xrm, xac, K, N, Z, D, Im, W, P, vS, pO, pX, pI, fS, fP, fI, fU, fR, fO, fA, fH, fG, fN, aS, qL, qR, qP) (nI oq) := by
  have eg' : xno.toNatClampNeg = g := by rw [eg, nI_clamp (by omega)]
  have hin : vp_in xno 600 := by rw [eg]; exact vp_in_nI (by omega) (by omega)
  unfold wpX_begin
  dsimp only
  refine br_f (fun z => n16 ((nI_eq (b := 16) (by omega) (by omega)).mp z)) ?_
  unfold wX_begin_28
  refine pk_eq oq 35 (fun e => ?_) (fun e => ?_)
  · unfold wX_begin_40
    rw [eg']
    exact ⟨hin, xr_apply (r := 1) efr eg eco hn hc hg eP hq (by omega) (fun z => absurd z (by omega)) (fun _ => h1 e)⟩
  · unfold wX_begin_40
    rw [eg']
    exact ⟨hin, xr_apply (r := 0) efr eg eco hn hc hg eP hq (by omega) (fun _ => h0 e) (fun z => absurd rfl z)⟩
theorem xa_begin_t {xst xow xin xpa xfi xfr xno xsi xan xkn xen xco xrm xac : Int32} {K N Z D Im W P vS pO pX pI fS fP fI fU fR fO fA fH fG fN aS qL qR qP : Nat → Int32} {post : SX → Prop} {g oq : Nat} (eg : xno = nI g) (eco : xco = nI 600) (hg : g < 600) (ho : oq ≤ 35) (n16 : oq ≠ 16) (hp : post (xst, xow, xin, xpa, xfi, xfr, xno, xsi, xan, xkn, 3, xco, xrm, xac, K, N, Z, D, Im, W, P, vS, pO, pX, pI, fS, fP, fI, fU, fR, fO, fA, fH, fG, fN, aS, qL, qR, qP)) : wpX_begin post (xst, xow, xin, xpa, xfi, xfr, xno, xsi, xan, xkn, xen, xco, xrm, xac, K, N, Z, D, Im, W, P, vS, pO, pX, pI, fS, fP, fI, fU, fR, fO, fA, fH, fG, fN, aS, qL, qR, qP) (nI oq) := by
  have hin : vp_in xno 600 := by rw [eg]; exact vp_in_nI (by omega) (by omega)
  unfold wpX_begin
  dsimp only
  refine br_f (fun z => n16 ((nI_eq (b := 16) (by omega) (by omega)).mp z)) ?_
  unfold wX_begin_28
  refine pk_eq oq 35 (fun e => ?_) (fun e => ?_)
  · unfold wX_begin_40
    exact ⟨hin, xr_apply_t eco hp⟩
  · unfold wX_begin_40
    exact ⟨hin, xr_apply_t eco hp⟩
theorem xa_beginAll {xst xow xin xpa xfi xfr xno xsi xan xkn xen xco xrm xac : Int32} {K N Z D Im W P vS pO pX pI fS fP fI fU fR fO fA fH fG fN aS qL qR qP : Nat → Int32} {post : SX → Prop} {n c g q rm : Nat} (eg : xno = nI g) (efr : xfr = nI n) (eco : xco = nI c) (erm : xrm = nI rm) (hrm : rm < 600) (hn : n < 600) (hc : c ≤ 600) (hg : g < n) (eP : fP g = nI q) (hq : q < 40)
    (h0 : c < 600 → post (xst, xow, xin, xpa, xfi, (nI (n + 1)), (nI n), 0, xan, xkn, xen, (nI (c + 1)), (nI (rm + 1)), xac, (upd K (53 + rm) 4), (upd N (53 + rm) 0), (upd Z (53 + rm) 0), D, Im, W, P, vS, pO, pX, pI, fS, (upd fP n (pI (q * 3 + 0))), (upd fI n (fI g)), (upd fU n (nI g)), (upd fR n (nI 0)), (upd (upd fO n (-1)) g (nI n)), (upd (upd fA n (-1)) g (nI n)), (upd (upd fH g (nI (53 + rm))) n 0), (upd fG n 0), (fn_c fN n g 3), aS, qL, qR, qP))
    (ht : c = 600 → post (xst, xow, xin, xpa, xfi, xfr, xno, xsi, xan, xkn, 3, xco, (nI (rm + 1)), xac, (upd K (53 + rm) 4), (upd N (53 + rm) 0), (upd Z (53 + rm) 0), D, Im, W, P, vS, pO, pX, pI, fS, fP, fI, fU, fR, fO, fA, (upd fH g (nI (53 + rm))), fG, fN, aS, qL, qR, qP)) : wpX_begin post (xst, xow, xin, xpa, xfi, xfr, xno, xsi, xan, xkn, xen, xco, xrm, xac, K, N, Z, D, Im, W, P, vS, pO, pX, pI, fS, fP, fI, fU, fR, fO, fA, fH, fG, fN, aS, qL, qR, qP) (nI 16) := by
  subst eg
  have eg' : (nI g).toNatClampNeg = g := nI_clamp (by omega)
  have hin : vp_in (nI g) 600 := vp_in_nI (by omega) (by omega)
  unfold wpX_begin
  dsimp only
  refine br_t rfl (xr_runSlot erm (xm_setNested (by omega) ?_))
  dsimp only
  rw [eg']
  refine ⟨hin, nm_e ?_⟩
  unfold wX_begin_28
  refine br_f (by decide) ?_
  unfold wX_begin_40
  rw [eg']
  by_cases c6 : c = 600
  · subst c6
    exact ⟨hin, xr_apply_t eco (ht rfl)⟩
  · exact ⟨hin, xr_apply (r := 0) efr rfl eco hn (by omega) hg eP hq (by omega) (fun _ => h0 (by omega)) (fun z => absurd rfl z)⟩
/-! ===== X hears ===== -/
theorem xh_whole {xst xow xin xpa xfi xfr xno xsi xan xkn xen xco xrm xac : Int32} {K N Z D Im W P vS pO pX pI fS fP fI fU fR fO fA fH fG fN aS qL qR qP : Nat → Int32} {post : SX → Prop} {a : Nat} (ea : xac = nI a) (ha : a < 20)
    (h2 : xsi = 2 → post (xst, xow, xin, xpa, xfi, xfr, xno, xsi, xan, xkn, 0, xco, xrm, xac, K, N, Z, D, Im, W, P, vS, pO, pX, pI, fS, fP, fI, fU, fR, fO, fA, fH, fG, fN, aS, qL, qR, qP)) (h3 : xsi = 3 → post (xst, xow, xin, xpa, xfi, xfr, xno, xsi, xan, xkn, 2, xco, xrm, xac, K, N, Z, D, Im, W, P, vS, pO, pX, pI, fS, fP, fI, fU, fR, fO, fA, fH, fG, fN, aS, qL, qR, qP))
    (h1 : xsi = 1 → a + 1 ≠ 20 → post (xst, xow, xin, xpa, xfi, xfr, xno, 0, xan, xkn, xen, xco, xrm, (nI (a + 1)), K, N, Z, D, Im, W, P, vS, pO, pX, pI, fS, fP, fI, fU, fR, fO, fA, fH, fG, fN, (upd aS a xan), qL, qR, qP)) (h20 : xsi = 1 → a + 1 = 20 → post (xst, xow, xin, xpa, xfi, xfr, xno, 0, xan, xkn, 1, xco, xrm, (nI (a + 1)), K, N, Z, D, Im, W, P, vS, pO, pX, pI, fS, fP, fI, fU, fR, fO, fA, fH, fG, fN, (upd aS a xan), qL, qR, qP)) (hs : xsi = 1 ∨ xsi = 2 ∨ xsi = 3) : wpX_hearWhole post (xst, xow, xin, xpa, xfi, xfr, xno, xsi, xan, xkn, xen, xco, xrm, xac, K, N, Z, D, Im, W, P, vS, pO, pX, pI, fS, fP, fI, fU, fR, fO, fA, fH, fG, fN, aS, qL, qR, qP) := by
  subst ea
  unfold wpX_hearWhole
  dsimp only
  rw [nI_clamp (show a < 2 ^ 31 by omega)]
  refine br_c h2 (fun n2 => br_c h3 (fun n3 => ⟨vp_in_nI ha (by omega), nm_e (nm_r (nI_1 a) ?_)⟩))
  have e1 : xsi = 1 := by
    rcases hs with z | z | z
    · exact z
    · exact absurd z n2
    · exact absurd z n3
  exact pk_eq (a + 1) 20 (fun z => h20 e1 z) (fun z => h1 e1 z)
theorem xh_77 {xst xow xin xpa xfi xfr xno xsi xan xkn xen xco xrm xac : Int32} {K N Z D Im W P vS pO pX pI fS fP fI fU fR fO fA fH fG fN aS qL qR qP : Nat → Int32} {post : SX → Prop} {g p q oq : Nat} {ro : Int32} (eg : xno = nI g) (hg : g < 600) (eU : fU g = nI p) (hp : p < 600) (eR : fR g = ro) (eP : fP p = nI q) (hq : q < 40) (eO : pO q = nI oq) (ho : oq ≤ 35)
    (h1 : (xsi = 2 ∨ (ro = 0 ∧ (oq = 17 ∨ oq = 32))) → wX_hearInner_77 post ro (nI oq) 1 xst xow xin xpa xfi xfr (nI p) xsi xan xkn xen xco xrm xac K N Z D Im W P vS pO pX pI fS fP fI fU fR fO fA fH fG fN aS qL qR qP)
    (h0 : (¬ xsi = 2 ∧ ¬ (ro = 0 ∧ (oq = 17 ∨ oq = 32))) → wX_hearInner_77 post ro (nI oq) 0 xst xow xin xpa xfi xfr (nI p) xsi xan xkn xen xco xrm xac K N Z D Im W P vS pO pX pI fS fP fI fU fR fO fA fH fG fN aS qL qR qP) : wpX_hearInner post (xst, xow, xin, xpa, xfi, xfr, xno, xsi, xan, xkn, xen, xco, xrm, xac, K, N, Z, D, Im, W, P, vS, pO, pX, pI, fS, fP, fI, fU, fR, fO, fA, fH, fG, fN, aS, qL, qR, qP) := by
  subst eg eR
  have eg' : (nI g).toNatClampNeg = g := nI_clamp (by omega)
  have ep' : (nI p).toNatClampNeg = p := nI_clamp (by omega)
  have hin : vp_in (nI g) 600 := vp_in_nI hg (by omega)
  have hip : vp_in (nI p) 600 := vp_in_nI hp (by omega)
  have k54 : fR g = 0 → (oq = 17 ∨ oq = 32) → wX_hearInner_54 post (fR g) (nI oq) xst xow xin xpa xfi xfr (nI p) xsi xan xkn xen xco xrm xac K N Z D Im W P vS pO pX pI fS fP fI fU fR fO fA fH fG fN aS qL qR qP := by
    intro a b
    unfold wX_hearInner_54 wX_hearInner_59
    refine br_c (fun z => ?_) (fun z => br_f (by decide) ?_)
    · unfold wX_hearInner_72
      exact h1 (Or.inl z)
    · unfold wX_hearInner_72
      exact h1 (Or.inr ⟨a, b⟩)
  have k58 : ¬ (fR g = 0 ∧ (oq = 17 ∨ oq = 32)) → wX_hearInner_58 post (fR g) (nI oq) xst xow xin xpa xfi xfr (nI p) xsi xan xkn xen xco xrm xac K N Z D Im W P vS pO pX pI fS fP fI fU fR fO fA fH fG fN aS qL qR qP := by
    intro a
    unfold wX_hearInner_58 wX_hearInner_59
    refine br_c (fun z => ?_) (fun z => br_t rfl (h0 ⟨z, a⟩))
    unfold wX_hearInner_72
    exact h1 (Or.inl z)
  unfold wpX_hearInner
  dsimp only
  rw [eg', eU]
  refine ⟨hin, nm_e ⟨hin, nm_e ⟨hip, ?_⟩⟩⟩
  rw [ep', eP, nI_clamp (show q < 2 ^ 31 by omega), eO]
  refine ⟨vp_in_nI hq (by omega), nm_e (br_c (fun r0 => pk_eq oq 17 (fun e => k54 r0 (Or.inl e)) (fun n17 => pk_eq oq 32 (fun e => k54 r0 (Or.inr e)) (fun n32 => k58 (fun w => by omega)))) (fun r0 => k58 (fun w => r0 w.1)))⟩
theorem xh_ans0 {xst xow xin xpa xfi xfr xno xsi xan xkn xen xco xrm xac : Int32} {K N Z D Im W P vS pO pX pI fS fP fI fU fR fO fA fH fG fN aS qL qR qP : Nat → Int32} {xst' xow' xin' xpa' xfi' xfr' xno' xsi' xan' xkn' xen' xco' xrm' xac' : Int32} {K' N' Z' D' Im' W' P' vS' pO' pX' pI' fS' fP' fI' fU' fR' fO' fA' fH' fG' fN' aS' qL' qR' qP' : Nat → Int32} {post : SX → Prop} {g p q oq : Nat} (eg : xno = nI g) (hg : g < 600) (eU : fU g = nI p) (hp : p < 600) (eR : fR g = 0) (eP : fP p = nI q) (hq : q < 40) (eO : pO q = nI oq) (ho : oq ≤ 35) (es : xsi = 1)
    (h : ∀ Q : SX → Prop, Q (xst', xow', xin', xpa', xfi', xfr', xno', xsi', xan', xkn', xen', xco', xrm', xac', K', N', Z', D', Im', W', P', vS', pO', pX', pI', fS', fP', fI', fU', fR', fO', fA', fH', fG', fN', aS', qL', qR', qP') → wpX_answerOfA Q (xst, xow, xin, xpa, xfi, xfr, (nI p), xsi, xan, xkn, xen, xco, xrm, xac, K, N, Z, D, Im, W, P, vS, pO, pX, pI, fS, fP, fI, fU, fR, fO, fA, fH, fG, fN, aS, qL, qR, qP) (nI oq)) (hpo : post (xst', xow', xin', xpa', xfi', xfr', xno', xsi', xan', xkn', xen', xco', xrm', xac', K', N', Z', D', Im', W', P', vS', pO', pX', pI', fS', fP', fI', fU', fR', fO', fA', fH', fG', fN', aS', qL', qR', qP')) : wpX_hearInner post (xst, xow, xin, xpa, xfi, xfr, xno, xsi, xan, xkn, xen, xco, xrm, xac, K, N, Z, D, Im, W, P, vS, pO, pX, pI, fS, fP, fI, fU, fR, fO, fA, fH, fG, fN, aS, qL, qR, qP) := by
  have key : ∀ z : Int32, wX_hearInner_77 post 0 (nI oq) z xst xow xin xpa xfi xfr (nI p) xsi xan xkn xen xco xrm xac K N Z D Im W P vS pO pX pI fS fP fI fU fR fO fA fH fG fN aS qL qR qP := by
    intro z
    unfold wX_hearInner_77
    exact br_t es (br_t rfl (h _ hpo))
  exact xh_77 eg hg eU hp eR eP hq eO ho (fun _ => key 1) (fun _ => key 0)
theorem xh_ans1 {xst xow xin xpa xfi xfr xno xsi xan xkn xen xco xrm xac : Int32} {K N Z D Im W P vS pO pX pI fS fP fI fU fR fO fA fH fG fN aS qL qR qP : Nat → Int32} {xst' xow' xin' xpa' xfi' xfr' xno' xsi' xan' xkn' xen' xco' xrm' xac' : Int32} {K' N' Z' D' Im' W' P' vS' pO' pX' pI' fS' fP' fI' fU' fR' fO' fA' fH' fG' fN' aS' qL' qR' qP' : Nat → Int32} {post : SX → Prop} {g p q oq : Nat} {ro : Int32} (eg : xno = nI g) (hg : g < 600) (eU : fU g = nI p) (hp : p < 600) (eR : fR g = ro) (hr : ¬ ro = 0) (eP : fP p = nI q) (hq : q < 40) (eO : pO q = nI oq) (ho : oq ≤ 35) (es : xsi = 1)
    (h : ∀ Q : SX → Prop, Q (xst', xow', xin', xpa', xfi', xfr', xno', xsi', xan', xkn', xen', xco', xrm', xac', K', N', Z', D', Im', W', P', vS', pO', pX', pI', fS', fP', fI', fU', fR', fO', fA', fH', fG', fN', aS', qL', qR', qP') → wpX_answerBehindA Q (xst, xow, xin, xpa, xfi, xfr, (nI p), xsi, xan, xkn, xen, xco, xrm, xac, K, N, Z, D, Im, W, P, vS, pO, pX, pI, fS, fP, fI, fU, fR, fO, fA, fH, fG, fN, aS, qL, qR, qP) (nI oq)) (hpo : post (xst', xow', xin', xpa', xfi', xfr', xno', xsi', xan', xkn', xen', xco', xrm', xac', K', N', Z', D', Im', W', P', vS', pO', pX', pI', fS', fP', fI', fU', fR', fO', fA', fH', fG', fN', aS', qL', qR', qP')) : wpX_hearInner post (xst, xow, xin, xpa, xfi, xfr, xno, xsi, xan, xkn, xen, xco, xrm, xac, K, N, Z, D, Im, W, P, vS, pO, pX, pI, fS, fP, fI, fU, fR, fO, fA, fH, fG, fN, aS, qL, qR, qP) := by
  have key : ∀ z : Int32, wX_hearInner_77 post ro (nI oq) z xst xow xin xpa xfi xfr (nI p) xsi xan xkn xen xco xrm xac K N Z D Im W P vS pO pX pI fS fP fI fU fR fO fA fH fG fN aS qL qR qP := by
    intro z
    unfold wX_hearInner_77
    refine br_t es (br_f hr ?_)
    unfold wX_hearInner_99
    exact br_t es (h _ hpo)
  exact xh_77 eg hg eU hp eR eP hq eO ho (fun _ => key 1) (fun _ => key 0)
theorem xh_end0 {xst xow xin xpa xfi xfr xno xsi xan xkn xen xco xrm xac : Int32} {K N Z D Im W P vS pO pX pI fS fP fI fU fR fO fA fH fG fN aS qL qR qP : Nat → Int32} {xst' xow' xin' xpa' xfi' xfr' xno' xsi' xan' xkn' xen' xco' xrm' xac' : Int32} {K' N' Z' D' Im' W' P' vS' pO' pX' pI' fS' fP' fI' fU' fR' fO' fA' fH' fG' fN' aS' qL' qR' qP' : Nat → Int32} {post : SX → Prop} {g p q oq : Nat} (eg : xno = nI g) (hg : g < 600) (eU : fU g = nI p) (hp : p < 600) (eR : fR g = 0) (eP : fP p = nI q) (hq : q < 40) (eO : pO q = nI oq) (ho : oq ≤ 35) (es : xsi = 2 ∨ (xsi = 3 ∧ (oq = 17 ∨ oq = 32)))
    (h : ∀ Q : SX → Prop, Q (xst', xow', xin', xpa', xfi', xfr', xno', xsi', xan', xkn', xen', xco', xrm', xac', K', N', Z', D', Im', W', P', vS', pO', pX', pI', fS', fP', fI', fU', fR', fO', fA', fH', fG', fN', aS', qL', qR', qP') → wpX_endOfA Q (xst, xow, xin, xpa, xfi, xfr, (nI p), xsi, xan, xkn, xen, xco, xrm, xac, K, N, Z, D, Im, W, P, vS, pO, pX, pI, fS, fP, fI, fU, fR, fO, fA, fH, fG, fN, aS, qL, qR, qP) (nI oq)) (hpo : post (xst', xow', xin', xpa', xfi', xfr', xno', xsi', xan', xkn', xen', xco', xrm', xac', K', N', Z', D', Im', W', P', vS', pO', pX', pI', fS', fP', fI', fU', fR', fO', fA', fH', fG', fN', aS', qL', qR', qP')) : wpX_hearInner post (xst, xow, xin, xpa, xfi, xfr, xno, xsi, xan, xkn, xen, xco, xrm, xac, K, N, Z, D, Im, W, P, vS, pO, pX, pI, fS, fP, fI, fU, fR, fO, fA, fH, fG, fN, aS, qL, qR, qP) := by
  have n1 : ¬ xsi = 1 := by
    rcases es with z | ⟨z, _⟩ <;> rw [z] <;> decide
  refine xh_77 eg hg eU hp eR eP hq eO ho (fun _ => ?_) (fun w => ?_)
  · unfold wX_hearInner_77
    refine br_f n1 ?_
    unfold wX_hearInner_99
    exact br_f n1 (br_f (by decide) (br_t rfl (h _ hpo)))
  · rcases es with z | ⟨_, z⟩
    · exact absurd z w.1
    · exact absurd ⟨rfl, z⟩ w.2
theorem xh_end1 {xst xow xin xpa xfi xfr xno xsi xan xkn xen xco xrm xac : Int32} {K N Z D Im W P vS pO pX pI fS fP fI fU fR fO fA fH fG fN aS qL qR qP : Nat → Int32} {xst' xow' xin' xpa' xfi' xfr' xno' xsi' xan' xkn' xen' xco' xrm' xac' : Int32} {K' N' Z' D' Im' W' P' vS' pO' pX' pI' fS' fP' fI' fU' fR' fO' fA' fH' fG' fN' aS' qL' qR' qP' : Nat → Int32} {post : SX → Prop} {g p q oq : Nat} {ro : Int32} (eg : xno = nI g) (hg : g < 600) (eU : fU g = nI p) (hp : p < 600) (eR : fR g = ro) (hr : ¬ ro = 0) (eP : fP p = nI q) (hq : q < 40) (eO : pO q = nI oq) (ho : oq ≤ 35) (es : xsi = 2)
    (h : ∀ Q : SX → Prop, Q (xst', xow', xin', xpa', xfi', xfr', xno', xsi', xan', xkn', xen', xco', xrm', xac', K', N', Z', D', Im', W', P', vS', pO', pX', pI', fS', fP', fI', fU', fR', fO', fA', fH', fG', fN', aS', qL', qR', qP') → wpX_endBehindA Q (xst, xow, xin, xpa, xfi, xfr, (nI p), xsi, xan, xkn, xen, xco, xrm, xac, K, N, Z, D, Im, W, P, vS, pO, pX, pI, fS, fP, fI, fU, fR, fO, fA, fH, fG, fN, aS, qL, qR, qP) (nI oq) ro) (hpo : post (xst', xow', xin', xpa', xfi', xfr', xno', xsi', xan', xkn', xen', xco', xrm', xac', K', N', Z', D', Im', W', P', vS', pO', pX', pI', fS', fP', fI', fU', fR', fO', fA', fH', fG', fN', aS', qL', qR', qP')) : wpX_hearInner post (xst, xow, xin, xpa, xfi, xfr, xno, xsi, xan, xkn, xen, xco, xrm, xac, K, N, Z, D, Im, W, P, vS, pO, pX, pI, fS, fP, fI, fU, fR, fO, fA, fH, fG, fN, aS, qL, qR, qP) := by
  have n1 : ¬ xsi = 1 := by rw [es]; decide
  refine xh_77 eg hg eU hp eR eP hq eO ho (fun _ => ?_) (fun w => absurd es w.1)
  unfold wX_hearInner_77
  refine br_f n1 ?_
  unfold wX_hearInner_99
  refine br_f n1 (br_f (by decide) (br_f hr ?_))
  unfold wX_hearInner_132
  exact br_f (by decide) (h _ hpo)
theorem xh_err {xst xow xin xpa xfi xfr xno xsi xan xkn xen xco xrm xac : Int32} {K N Z D Im W P vS pO pX pI fS fP fI fU fR fO fA fH fG fN aS qL qR qP : Nat → Int32} {post : SX → Prop} {g p q oq : Nat} {ro : Int32} (eg : xno = nI g) (hg : g < 600) (eU : fU g = nI p) (hp : p < 600) (eR : fR g = ro) (eP : fP p = nI q) (hq : q < 40) (eO : pO q = nI oq) (ho : oq ≤ 35) (es : xsi = 3) (hn : ¬ (ro = 0 ∧ (oq = 17 ∨ oq = 32)))
    (hpo : post (xst, xow, xin, xpa, xfi, xfr, (nI p), xsi, xan, xkn, xen, xco, xrm, xac, K, N, Z, D, Im, W, P, vS, pO, pX, pI, fS, fP, fI, fU, fR, fO, fA, fH, fG, fN, aS, qL, qR, qP)) : wpX_hearInner post (xst, xow, xin, xpa, xfi, xfr, xno, xsi, xan, xkn, xen, xco, xrm, xac, K, N, Z, D, Im, W, P, vS, pO, pX, pI, fS, fP, fI, fU, fR, fO, fA, fH, fG, fN, aS, qL, qR, qP) := by
  have n1 : ¬ xsi = 1 := by rw [es]; decide
  have n2 : ¬ xsi = 2 := by rw [es]; decide
  refine xh_77 eg hg eU hp eR eP hq eO ho (fun w => w.elim (fun z => absurd z n2) (fun z => absurd z hn)) (fun _ => ?_)
  unfold wX_hearInner_77
  refine br_f n1 ?_
  unfold wX_hearInner_99
  refine br_f n1 (br_t rfl ?_)
  unfold wX_hearInner_132
  exact br_t rfl hpo
end
section
/-! ===== X: an answer of the first filter within ===== -/
theorem xo_pre {xst xow xin xpa xfi xfr xno xsi xan xkn xen xco xrm xac : Int32} {K N Z D Im W P vS pO pX pI fS fP fI fU fR fO fA fH fG fN aS qL qR qP : Nat → Int32} {post : SX → Prop} {s κ : Nat} {x : Int32} {Q : Int32 → Prop} (ea : xan = nI s) (hs : s < 653) (eK : K s = nI κ) (hκ : κ ≤ 5) (h0 : 2 ≤ κ → Q 0) (h1 : κ < 2 → Q 1) : wpX_isEmpty Q (xst, xow, xin, xpa, xfi, xfr, xno, xsi, xan, xkn, xen, xco, xrm, xac, K, N, Z, D, Im, W, P, vS, pO, pX, pI, fS, fP, fI, fU, fR, fO, fA, fH, fG, fN, aS, qL, qR, qP) xan := by
  rw [ea]
  exact xr_isEmpty hs eK hκ h0 h1
theorem xo_17 {xst xow xin xpa xfi xfr xno xsi xan xkn xen xco xrm xac : Int32} {K N Z D Im W P vS pO pX pI fS fP fI fU fR fO fA fH fG fN aS qL qR qP : Nat → Int32} {post : SX → Prop} {g s κ : Nat} (eg : xno = nI g) (hg : g < 600) (ea : xan = nI s) (hs : s < 653) (eK : K s = nI κ) (hκ : κ ≤ 5) (hp : post (xst, xow, xin, xpa, xfi, xfr, xno, xsi, xan, xkn, xen, xco, xrm, xac, K, N, Z, D, Im, W, P, vS, pO, pX, pI, fS, fP, fI, fU, fR, fO, fA, fH, fG, fN, aS, qL, qR, qP)) : wpX_answerOfA post (xst, xow, xin, xpa, xfi, xfr, xno, xsi, xan, xkn, xen, xco, xrm, xac, K, N, Z, D, Im, W, P, vS, pO, pX, pI, fS, fP, fI, fU, fR, fO, fA, fH, fG, fN, aS, qL, qR, qP) (nI 17) := by
  have eg' : xno.toNatClampNeg = g := by rw [eg, nI_clamp (by omega)]
  have hin : vp_in xno 600 := by rw [eg]; exact vp_in_nI hg (by omega)
  unfold wpX_answerOfA
  dsimp only
  rw [eg']
  exact xo_pre (post := post) (x := 0) ea hs eK hκ (fun hz => br_f (by decide) (br_f (by decide) (br_f (by decide) (br_t rfl (hp))))) (fun hz => br_f (by decide) (br_f (by decide) (br_f (by decide) (br_t rfl (hp)))))
theorem xo_22 {xst xow xin xpa xfi xfr xno xsi xan xkn xen xco xrm xac : Int32} {K N Z D Im W P vS pO pX pI fS fP fI fU fR fO fA fH fG fN aS qL qR qP : Nat → Int32} {post : SX → Prop} {g s κ : Nat} (eg : xno = nI g) (hg : g < 600) (ea : xan = nI s) (hs : s < 653) (eK : K s = nI κ) (hκ : κ ≤ 5) (hp : post (xst, xow, xin, xpa, xfi, xfr, xno, xsi, xan, xkn, xen, xco, xrm, xac, K, N, Z, D, Im, W, P, vS, pO, pX, pI, fS, fP, fI, fU, fR, fO, fA, fH, fG, fN, aS, qL, qR, qP)) : wpX_answerOfA post (xst, xow, xin, xpa, xfi, xfr, xno, xsi, xan, xkn, xen, xco, xrm, xac, K, N, Z, D, Im, W, P, vS, pO, pX, pI, fS, fP, fI, fU, fR, fO, fA, fH, fG, fN, aS, qL, qR, qP) (nI 22) := by
  have eg' : xno.toNatClampNeg = g := by rw [eg, nI_clamp (by omega)]
  have hin : vp_in xno 600 := by rw [eg]; exact vp_in_nI hg (by omega)
  unfold wpX_answerOfA
  dsimp only
  rw [eg']
  exact xo_pre (post := post) (x := 0) ea hs eK hκ (fun hz => br_f (by decide) (br_f (by decide) (br_f (by decide) (br_f (by decide) (br_f (by decide) (br_f (by decide) (br_f (by decide) (br_f (by decide) (br_t rfl (hp)))))))))) (fun hz => br_f (by decide) (br_f (by decide) (br_f (by decide) (br_f (by decide) (br_f (by decide) (br_f (by decide) (br_f (by decide) (br_f (by decide) (br_t rfl (hp))))))))))
theorem xo_20 {xst xow xin xpa xfi xfr xno xsi xan xkn xen xco xrm xac : Int32} {K N Z D Im W P vS pO pX pI fS fP fI fU fR fO fA fH fG fN aS qL qR qP : Nat → Int32} {post : SX → Prop} {g s κ : Nat} (eg : xno = nI g) (hg : g < 600) (ea : xan = nI s) (hs : s < 653) (eK : K s = nI κ) (hκ : κ ≤ 5) (hp : post (xst, xow, xin, xpa, xfi, xfr, xno, 5, xan, xkn, xen, xco, xrm, xac, K, N, Z, D, Im, W, P, vS, pO, pX, pI, fS, fP, fI, fU, fR, fO, fA, fH, fG, fN, aS, qL, qR, qP)) : wpX_answerOfA post (xst, xow, xin, xpa, xfi, xfr, xno, xsi, xan, xkn, xen, xco, xrm, xac, K, N, Z, D, Im, W, P, vS, pO, pX, pI, fS, fP, fI, fU, fR, fO, fA, fH, fG, fN, aS, qL, qR, qP) (nI 20) := by
  have eg' : xno.toNatClampNeg = g := by rw [eg, nI_clamp (by omega)]
  have hin : vp_in xno 600 := by rw [eg]; exact vp_in_nI hg (by omega)
  unfold wpX_answerOfA
  dsimp only
  rw [eg']
  exact xo_pre (post := post) (x := 0) ea hs eK hκ (fun hz => br_f (by decide) (br_f (by decide) (br_f (by decide) (br_f (by decide) (br_f (by decide) (br_f (by decide) (br_t rfl (hp)))))))) (fun hz => br_f (by decide) (br_f (by decide) (br_f (by decide) (br_f (by decide) (br_f (by decide) (br_f (by decide) (br_t rfl (hp))))))))
theorem xo_18 {xst xow xin xpa xfi xfr xno xsi xan xkn xen xco xrm xac : Int32} {K N Z D Im W P vS pO pX pI fS fP fI fU fR fO fA fH fG fN aS qL qR qP : Nat → Int32} {post : SX → Prop} {g s κ : Nat} (eg : xno = nI g) (hg : g < 600) (ea : xan = nI s) (hs : s < 653) (eK : K s = nI κ) (hκ : κ ≤ 5) {gv : Nat} (eG : fG g = nI gv) (hp : post (xst, xow, xin, xpa, xfi, xfr, xno, xsi, xan, xkn, xen, xco, xrm, xac, K, N, Z, D, Im, W, P, vS, pO, pX, pI, fS, fP, fI, fU, fR, fO, fA, fH, (upd fG g (nI (gv + 1))), fN, aS, qL, qR, qP)) : wpX_answerOfA post (xst, xow, xin, xpa, xfi, xfr, xno, xsi, xan, xkn, xen, xco, xrm, xac, K, N, Z, D, Im, W, P, vS, pO, pX, pI, fS, fP, fI, fU, fR, fO, fA, fH, fG, fN, aS, qL, qR, qP) (nI 18) := by
  have eg' : xno.toNatClampNeg = g := by rw [eg, nI_clamp (by omega)]
  have hin : vp_in xno 600 := by rw [eg]; exact vp_in_nI hg (by omega)
  unfold wpX_answerOfA
  dsimp only
  rw [eg']
  exact xo_pre (post := post) (x := 0) ea hs eK hκ (fun hz => br_f (by decide) (br_f (by decide) (br_f (by decide) (br_f (by decide) (br_t rfl (⟨hin, hin, nm_r (by rw [eG, nI_1]) hp⟩)))))) (fun hz => br_f (by decide) (br_f (by decide) (br_f (by decide) (br_f (by decide) (br_t rfl (⟨hin, hin, nm_r (by rw [eG, nI_1]) hp⟩))))))
theorem xo_19 {xst xow xin xpa xfi xfr xno xsi xan xkn xen xco xrm xac : Int32} {K N Z D Im W P vS pO pX pI fS fP fI fU fR fO fA fH fG fN aS qL qR qP : Nat → Int32} {post : SX → Prop} {g s κ : Nat} (eg : xno = nI g) (hg : g < 600) (ea : xan = nI s) (hs : s < 653) (eK : K s = nI κ) (hκ : κ ≤ 5) (h1 : 2 ≤ κ → post (xst, xow, xin, xpa, xfi, xfr, xno, 1, (fI g), xkn, xen, xco, xrm, xac, K, N, Z, D, Im, W, P, vS, pO, pX, pI, fS, fP, fI, fU, fR, fO, fA, fH, fG, fN, aS, qL, qR, qP)) (h0 : κ < 2 → post (xst, xow, xin, xpa, xfi, xfr, xno, 0, (fI g), xkn, xen, xco, xrm, xac, K, N, Z, D, Im, W, P, vS, pO, pX, pI, fS, fP, fI, fU, fR, fO, fA, fH, fG, fN, aS, qL, qR, qP)) : wpX_answerOfA post (xst, xow, xin, xpa, xfi, xfr, xno, xsi, xan, xkn, xen, xco, xrm, xac, K, N, Z, D, Im, W, P, vS, pO, pX, pI, fS, fP, fI, fU, fR, fO, fA, fH, fG, fN, aS, qL, qR, qP) (nI 19) := by
  have eg' : xno.toNatClampNeg = g := by rw [eg, nI_clamp (by omega)]
  have hin : vp_in xno 600 := by rw [eg]; exact vp_in_nI hg (by omega)
  unfold wpX_answerOfA
  dsimp only
  rw [eg']
  exact xo_pre (post := post) (x := 0) ea hs eK hκ (fun hz => br_f (by decide) (br_f (by decide) (br_f (by decide) (br_f (by decide) (br_f (by decide) (br_t rfl (⟨hin, nm_e (br_t rfl (h1 hz))⟩))))))) (fun hz => br_f (by decide) (br_f (by decide) (br_f (by decide) (br_f (by decide) (br_f (by decide) (br_t rfl (⟨hin, nm_e (br_f (by decide) (h0 hz))⟩)))))))
theorem xo_21 {xst xow xin xpa xfi xfr xno xsi xan xkn xen xco xrm xac : Int32} {K N Z D Im W P vS pO pX pI fS fP fI fU fR fO fA fH fG fN aS qL qR qP : Nat → Int32} {xst' xow' xin' xpa' xfi' xfr' xno' xsi' xan' xkn' xen' xco' xrm' xac' : Int32} {K' N' Z' D' Im' W' P' vS' pO' pX' pI' fS' fP' fI' fU' fR' fO' fA' fH' fG' fN' aS' qL' qR' qP' : Nat → Int32} {post : SX → Prop} {g s κ : Nat} (eg : xno = nI g) (hg : g < 600) (ea : xan = nI s) (hs : s < 653) (eK : K s = nI κ) (hκ : κ ≤ 5) (hA : ∀ Q : SX → Prop, Q (xst', xow', xin', xpa', xfi', xfr', xno', xsi', xan', xkn', xen', xco', xrm', xac', K', N', Z', D', Im', W', P', vS', pO', pX', pI', fS', fP', fI', fU', fR', fO', fA', fH', fG', fN', aS', qL', qR', qP') → wpX_apply Q (xst, xow, xin, xpa, xfi, xfr, xno, xsi, xan, xkn, xen, xco, xrm, xac, K, N, Z, D, Im, W, P, vS, pO, pX, pI, fS, fP, fI, fU, fR, fO, fA, fH, fG, fN, aS, qL, qR, qP) (nI 1) xan) (hp : post (xst', xow', xin', xpa', xfi', xfr', xno', xsi', xan', xkn', xen', xco', xrm', xac', K', N', Z', D', Im', W', P', vS', pO', pX', pI', fS', fP', fI', fU', fR', fO', fA', fH', fG', fN', aS', qL', qR', qP')) : wpX_answerOfA post (xst, xow, xin, xpa, xfi, xfr, xno, xsi, xan, xkn, xen, xco, xrm, xac, K, N, Z, D, Im, W, P, vS, pO, pX, pI, fS, fP, fI, fU, fR, fO, fA, fH, fG, fN, aS, qL, qR, qP) (nI 21) := by
  have eg' : xno.toNatClampNeg = g := by rw [eg, nI_clamp (by omega)]
  have hin : vp_in xno 600 := by rw [eg]; exact vp_in_nI hg (by omega)
  unfold wpX_answerOfA
  dsimp only
  rw [eg']
  exact xo_pre (post := post) (x := 0) ea hs eK hκ (fun hz => br_f (by decide) (br_f (by decide) (br_f (by decide) (br_f (by decide) (br_f (by decide) (br_f (by decide) (br_f (by decide) (br_t rfl (hA _ hp))))))))) (fun hz => br_f (by decide) (br_f (by decide) (br_f (by decide) (br_f (by decide) (br_f (by decide) (br_f (by decide) (br_f (by decide) (br_t rfl (hA _ hp)))))))))
theorem xo_23 {xst xow xin xpa xfi xfr xno xsi xan xkn xen xco xrm xac : Int32} {K N Z D Im W P vS pO pX pI fS fP fI fU fR fO fA fH fG fN aS qL qR qP : Nat → Int32} {xst' xow' xin' xpa' xfi' xfr' xno' xsi' xan' xkn' xen' xco' xrm' xac' : Int32} {K' N' Z' D' Im' W' P' vS' pO' pX' pI' fS' fP' fI' fU' fR' fO' fA' fH' fG' fN' aS' qL' qR' qP' : Nat → Int32} {post : SX → Prop} {g s κ : Nat} (eg : xno = nI g) (hg : g < 600) (ea : xan = nI s) (hs : s < 653) (eK : K s = nI κ) (hκ : κ ≤ 5) (hA : ∀ Q : SX → Prop, Q (xst', xow', xin', xpa', xfi', xfr', xno', xsi', xan', xkn', xen', xco', xrm', xac', K', N', Z', D', Im', W', P', vS', pO', pX', pI', fS', fP', fI', fU', fR', fO', fA', fH', fG', fN', aS', qL', qR', qP') → wpX_apply Q (xst, xow, xin, xpa, xfi, xfr, xno, xsi, xan, xkn, xen, xco, xrm, xac, K, N, Z, D, Im, W, P, vS, pO, pX, pI, fS, fP, fI, fU, fR, fO, fA, (upd fH g xan), fG, fN, aS, qL, qR, qP) (nI 1) (fI g)) (hp : post (xst', xow', xin', xpa', xfi', xfr', xno', xsi', xan', xkn', xen', xco', xrm', xac', K', N', Z', D', Im', W', P', vS', pO', pX', pI', fS', fP', fI', fU', fR', fO', fA', fH', fG', fN', aS', qL', qR', qP')) : wpX_answerOfA post (xst, xow, xin, xpa, xfi, xfr, xno, xsi, xan, xkn, xen, xco, xrm, xac, K, N, Z, D, Im, W, P, vS, pO, pX, pI, fS, fP, fI, fU, fR, fO, fA, fH, fG, fN, aS, qL, qR, qP) (nI 23) := by
  have eg' : xno.toNatClampNeg = g := by rw [eg, nI_clamp (by omega)]
  have hin : vp_in xno 600 := by rw [eg]; exact vp_in_nI hg (by omega)
  have k335 : wX_answerOfA_335 post xst xow xin xpa xfi xfr xno xsi xan xkn xen xco xrm xac K N Z D Im W P vS pO pX pI fS fP fI fU fR fO fA fH fG fN aS qL qR qP := by
    unfold wX_answerOfA_335
    rw [eg']
    exact ⟨hin, nm_e ⟨hin, hA _ hp⟩⟩
  unfold wpX_answerOfA
  dsimp only
  rw [eg']
  exact xo_pre (post := post) (x := 0) ea hs eK hκ (fun hz => br_f (by decide) (br_f (by decide) (br_f (by decide) (br_f (by decide) (br_f (by decide) (br_f (by decide) (br_f (by decide) (br_f (by decide) (br_f (by decide) (br_t rfl (k335))))))))))) (fun hz => br_f (by decide) (br_f (by decide) (br_f (by decide) (br_f (by decide) (br_f (by decide) (br_f (by decide) (br_f (by decide) (br_f (by decide) (br_f (by decide) (br_t rfl (k335)))))))))))
theorem xo_24 {xst xow xin xpa xfi xfr xno xsi xan xkn xen xco xrm xac : Int32} {K N Z D Im W P vS pO pX pI fS fP fI fU fR fO fA fH fG fN aS qL qR qP : Nat → Int32} {xst' xow' xin' xpa' xfi' xfr' xno' xsi' xan' xkn' xen' xco' xrm' xac' : Int32} {K' N' Z' D' Im' W' P' vS' pO' pX' pI' fS' fP' fI' fU' fR' fO' fA' fH' fG' fN' aS' qL' qR' qP' : Nat → Int32} {post : SX → Prop} {g s κ : Nat} (eg : xno = nI g) (hg : g < 600) (ea : xan = nI s) (hs : s < 653) (eK : K s = nI κ) (hκ : κ ≤ 5) (hA : ∀ Q : SX → Prop, Q (xst', xow', xin', xpa', xfi', xfr', xno', xsi', xan', xkn', xen', xco', xrm', xac', K', N', Z', D', Im', W', P', vS', pO', pX', pI', fS', fP', fI', fU', fR', fO', fA', fH', fG', fN', aS', qL', qR', qP') → wpX_apply Q (xst, xow, xin, xpa, xfi, xfr, xno, xsi, xan, xkn, xen, xco, xrm, xac, K, N, Z, D, Im, W, P, vS, pO, pX, pI, fS, fP, fI, fU, fR, fO, fA, (upd fH g xan), fG, fN, aS, qL, qR, qP) (nI 1) (fI g)) (hp : post (xst', xow', xin', xpa', xfi', xfr', xno', xsi', xan', xkn', xen', xco', xrm', xac', K', N', Z', D', Im', W', P', vS', pO', pX', pI', fS', fP', fI', fU', fR', fO', fA', fH', fG', fN', aS', qL', qR', qP')) : wpX_answerOfA post (xst, xow, xin, xpa, xfi, xfr, xno, xsi, xan, xkn, xen, xco, xrm, xac, K, N, Z, D, Im, W, P, vS, pO, pX, pI, fS, fP, fI, fU, fR, fO, fA, fH, fG, fN, aS, qL, qR, qP) (nI 24) := by
  have eg' : xno.toNatClampNeg = g := by rw [eg, nI_clamp (by omega)]
  have hin : vp_in xno 600 := by rw [eg]; exact vp_in_nI hg (by omega)
  have k335 : wX_answerOfA_335 post xst xow xin xpa xfi xfr xno xsi xan xkn xen xco xrm xac K N Z D Im W P vS pO pX pI fS fP fI fU fR fO fA fH fG fN aS qL qR qP := by
    unfold wX_answerOfA_335
    rw [eg']
    exact ⟨hin, nm_e ⟨hin, hA _ hp⟩⟩
  unfold wpX_answerOfA
  dsimp only
  rw [eg']
  exact xo_pre (post := post) (x := 0) ea hs eK hκ (fun hz => br_f (by decide) (br_f (by decide) (br_f (by decide) (br_f (by decide) (br_f (by decide) (br_f (by decide) (br_f (by decide) (br_f (by decide) (br_f (by decide) (br_f (by decide) (br_t rfl (k335)))))))))))) (fun hz => br_f (by decide) (br_f (by decide) (br_f (by decide) (br_f (by decide) (br_f (by decide) (br_f (by decide) (br_f (by decide) (br_f (by decide) (br_f (by decide) (br_f (by decide) (br_t rfl (k335))))))))))))
theorem xo_25 {xst xow xin xpa xfi xfr xno xsi xan xkn xen xco xrm xac : Int32} {K N Z D Im W P vS pO pX pI fS fP fI fU fR fO fA fH fG fN aS qL qR qP : Nat → Int32} {xst' xow' xin' xpa' xfi' xfr' xno' xsi' xan' xkn' xen' xco' xrm' xac' : Int32} {K' N' Z' D' Im' W' P' vS' pO' pX' pI' fS' fP' fI' fU' fR' fO' fA' fH' fG' fN' aS' qL' qR' qP' : Nat → Int32} {post : SX → Prop} {g s κ : Nat} (eg : xno = nI g) (hg : g < 600) (ea : xan = nI s) (hs : s < 653) (eK : K s = nI κ) (hκ : κ ≤ 5) (hA : ∀ Q : SX → Prop, Q (xst', xow', xin', xpa', xfi', xfr', xno', xsi', xan', xkn', xen', xco', xrm', xac', K', N', Z', D', Im', W', P', vS', pO', pX', pI', fS', fP', fI', fU', fR', fO', fA', fH', fG', fN', aS', qL', qR', qP') → wpX_apply Q (xst, xow, xin, xpa, xfi, xfr, xno, xsi, xan, xkn, xen, xco, xrm, xac, K, N, Z, D, Im, W, P, vS, pO, pX, pI, fS, fP, fI, fU, fR, fO, fA, (upd fH g xan), fG, fN, aS, qL, qR, qP) (nI 1) (fI g)) (hp : post (xst', xow', xin', xpa', xfi', xfr', xno', xsi', xan', xkn', xen', xco', xrm', xac', K', N', Z', D', Im', W', P', vS', pO', pX', pI', fS', fP', fI', fU', fR', fO', fA', fH', fG', fN', aS', qL', qR', qP')) : wpX_answerOfA post (xst, xow, xin, xpa, xfi, xfr, xno, xsi, xan, xkn, xen, xco, xrm, xac, K, N, Z, D, Im, W, P, vS, pO, pX, pI, fS, fP, fI, fU, fR, fO, fA, fH, fG, fN, aS, qL, qR, qP) (nI 25) := by
  have eg' : xno.toNatClampNeg = g := by rw [eg, nI_clamp (by omega)]
  have hin : vp_in xno 600 := by rw [eg]; exact vp_in_nI hg (by omega)
  have k335 : wX_answerOfA_335 post xst xow xin xpa xfi xfr xno xsi xan xkn xen xco xrm xac K N Z D Im W P vS pO pX pI fS fP fI fU fR fO fA fH fG fN aS qL qR qP := by
    unfold wX_answerOfA_335
    rw [eg']
    exact ⟨hin, nm_e ⟨hin, hA _ hp⟩⟩
  unfold wpX_answerOfA
  dsimp only
  rw [eg']
  exact xo_pre (post := post) (x := 0) ea hs eK hκ (fun hz => br_f (by decide) (br_f (by decide) (br_f (by decide) (br_f (by decide) (br_f (by decide) (br_f (by decide) (br_f (by decide) (br_f (by decide) (br_f (by decide) (br_f (by decide) (br_f (by decide) (br_t rfl (k335))))))))))))) (fun hz => br_f (by decide) (br_f (by decide) (br_f (by decide) (br_f (by decide) (br_f (by decide) (br_f (by decide) (br_f (by decide) (br_f (by decide) (br_f (by decide) (br_f (by decide) (br_f (by decide) (br_t rfl (k335)))))))))))))
theorem xo_26 {xst xow xin xpa xfi xfr xno xsi xan xkn xen xco xrm xac : Int32} {K N Z D Im W P vS pO pX pI fS fP fI fU fR fO fA fH fG fN aS qL qR qP : Nat → Int32} {xst' xow' xin' xpa' xfi' xfr' xno' xsi' xan' xkn' xen' xco' xrm' xac' : Int32} {K' N' Z' D' Im' W' P' vS' pO' pX' pI' fS' fP' fI' fU' fR' fO' fA' fH' fG' fN' aS' qL' qR' qP' : Nat → Int32} {post : SX → Prop} {g s κ : Nat} (eg : xno = nI g) (hg : g < 600) (ea : xan = nI s) (hs : s < 653) (eK : K s = nI κ) (hκ : κ ≤ 5) (hA : ∀ Q : SX → Prop, Q (xst', xow', xin', xpa', xfi', xfr', xno', xsi', xan', xkn', xen', xco', xrm', xac', K', N', Z', D', Im', W', P', vS', pO', pX', pI', fS', fP', fI', fU', fR', fO', fA', fH', fG', fN', aS', qL', qR', qP') → wpX_apply Q (xst, xow, xin, xpa, xfi, xfr, xno, xsi, xan, xkn, xen, xco, xrm, xac, K, N, Z, D, Im, W, P, vS, pO, pX, pI, fS, fP, fI, fU, fR, fO, fA, (upd fH g xan), fG, fN, aS, qL, qR, qP) (nI 1) (fI g)) (hp : post (xst', xow', xin', xpa', xfi', xfr', xno', xsi', xan', xkn', xen', xco', xrm', xac', K', N', Z', D', Im', W', P', vS', pO', pX', pI', fS', fP', fI', fU', fR', fO', fA', fH', fG', fN', aS', qL', qR', qP')) : wpX_answerOfA post (xst, xow, xin, xpa, xfi, xfr, xno, xsi, xan, xkn, xen, xco, xrm, xac, K, N, Z, D, Im, W, P, vS, pO, pX, pI, fS, fP, fI, fU, fR, fO, fA, fH, fG, fN, aS, qL, qR, qP) (nI 26) := by
  have eg' : xno.toNatClampNeg = g := by rw [eg, nI_clamp (by omega)]
  have hin : vp_in xno 600 := by rw [eg]; exact vp_in_nI hg (by omega)
  have k335 : wX_answerOfA_335 post xst xow xin xpa xfi xfr xno xsi xan xkn xen xco xrm xac K N Z D Im W P vS pO pX pI fS fP fI fU fR fO fA fH fG fN aS qL qR qP := by
    unfold wX_answerOfA_335
    rw [eg']
    exact ⟨hin, nm_e ⟨hin, hA _ hp⟩⟩
  unfold wpX_answerOfA
  dsimp only
  rw [eg']
  exact xo_pre (post := post) (x := 0) ea hs eK hκ (fun hz => br_f (by decide) (br_f (by decide) (br_f (by decide) (br_f (by decide) (br_f (by decide) (br_f (by decide) (br_f (by decide) (br_f (by decide) (br_f (by decide) (br_f (by decide) (br_f (by decide) (br_f (by decide) (br_t rfl (k335)))))))))))))) (fun hz => br_f (by decide) (br_f (by decide) (br_f (by decide) (br_f (by decide) (br_f (by decide) (br_f (by decide) (br_f (by decide) (br_f (by decide) (br_f (by decide) (br_f (by decide) (br_f (by decide) (br_f (by decide) (br_t rfl (k335))))))))))))))
theorem xo_27 {xst xow xin xpa xfi xfr xno xsi xan xkn xen xco xrm xac : Int32} {K N Z D Im W P vS pO pX pI fS fP fI fU fR fO fA fH fG fN aS qL qR qP : Nat → Int32} {xst' xow' xin' xpa' xfi' xfr' xno' xsi' xan' xkn' xen' xco' xrm' xac' : Int32} {K' N' Z' D' Im' W' P' vS' pO' pX' pI' fS' fP' fI' fU' fR' fO' fA' fH' fG' fN' aS' qL' qR' qP' : Nat → Int32} {post : SX → Prop} {g s κ : Nat} (eg : xno = nI g) (hg : g < 600) (ea : xan = nI s) (hs : s < 653) (eK : K s = nI κ) (hκ : κ ≤ 5) (hA : ∀ Q : SX → Prop, Q (xst', xow', xin', xpa', xfi', xfr', xno', xsi', xan', xkn', xen', xco', xrm', xac', K', N', Z', D', Im', W', P', vS', pO', pX', pI', fS', fP', fI', fU', fR', fO', fA', fH', fG', fN', aS', qL', qR', qP') → wpX_apply Q (xst, xow, xin, xpa, xfi, xfr, xno, xsi, xan, xkn, xen, xco, xrm, xac, K, N, Z, D, Im, W, P, vS, pO, pX, pI, fS, fP, fI, fU, fR, fO, fA, (upd fH g xan), fG, fN, aS, qL, qR, qP) (nI 1) (fI g)) (hp : post (xst', xow', xin', xpa', xfi', xfr', xno', xsi', xan', xkn', xen', xco', xrm', xac', K', N', Z', D', Im', W', P', vS', pO', pX', pI', fS', fP', fI', fU', fR', fO', fA', fH', fG', fN', aS', qL', qR', qP')) : wpX_answerOfA post (xst, xow, xin, xpa, xfi, xfr, xno, xsi, xan, xkn, xen, xco, xrm, xac, K, N, Z, D, Im, W, P, vS, pO, pX, pI, fS, fP, fI, fU, fR, fO, fA, fH, fG, fN, aS, qL, qR, qP) (nI 27) := by
  have eg' : xno.toNatClampNeg = g := by rw [eg, nI_clamp (by omega)]
  have hin : vp_in xno 600 := by rw [eg]; exact vp_in_nI hg (by omega)
  have k335 : wX_answerOfA_335 post xst xow xin xpa xfi xfr xno xsi xan xkn xen xco xrm xac K N Z D Im W P vS pO pX pI fS fP fI fU fR fO fA fH fG fN aS qL qR qP := by
    unfold wX_answerOfA_335
    rw [eg']
    exact ⟨hin, nm_e ⟨hin, hA _ hp⟩⟩
  unfold wpX_answerOfA
  dsimp only
  rw [eg']
  exact xo_pre (post := post) (x := 0) ea hs eK hκ (fun hz => br_f (by decide) (br_f (by decide) (br_f (by decide) (br_f (by decide) (br_f (by decide) (br_f (by decide) (br_f (by decide) (br_f (by decide) (br_f (by decide) (br_f (by decide) (br_f (by decide) (br_f (by decide) (br_f (by decide) (br_t rfl (k335))))))))))))))) (fun hz => br_f (by decide) (br_f (by decide) (br_f (by decide) (br_f (by decide) (br_f (by decide) (br_f (by decide) (br_f (by decide) (br_f (by decide) (br_f (by decide) (br_f (by decide) (br_f (by decide) (br_f (by decide) (br_f (by decide) (br_t rfl (k335)))))))))))))))
theorem xo_28 {xst xow xin xpa xfi xfr xno xsi xan xkn xen xco xrm xac : Int32} {K N Z D Im W P vS pO pX pI fS fP fI fU fR fO fA fH fG fN aS qL qR qP : Nat → Int32} {xst' xow' xin' xpa' xfi' xfr' xno' xsi' xan' xkn' xen' xco' xrm' xac' : Int32} {K' N' Z' D' Im' W' P' vS' pO' pX' pI' fS' fP' fI' fU' fR' fO' fA' fH' fG' fN' aS' qL' qR' qP' : Nat → Int32} {post : SX → Prop} {g s κ : Nat} (eg : xno = nI g) (hg : g < 600) (ea : xan = nI s) (hs : s < 653) (eK : K s = nI κ) (hκ : κ ≤ 5) (hA : ∀ Q : SX → Prop, Q (xst', xow', xin', xpa', xfi', xfr', xno', xsi', xan', xkn', xen', xco', xrm', xac', K', N', Z', D', Im', W', P', vS', pO', pX', pI', fS', fP', fI', fU', fR', fO', fA', fH', fG', fN', aS', qL', qR', qP') → wpX_apply Q (xst, xow, xin, xpa, xfi, xfr, xno, xsi, xan, xkn, xen, xco, xrm, xac, K, N, Z, D, Im, W, P, vS, pO, pX, pI, fS, fP, fI, fU, fR, fO, fA, (upd fH g xan), fG, fN, aS, qL, qR, qP) (nI 1) (fI g)) (hp : post (xst', xow', xin', xpa', xfi', xfr', xno', xsi', xan', xkn', xen', xco', xrm', xac', K', N', Z', D', Im', W', P', vS', pO', pX', pI', fS', fP', fI', fU', fR', fO', fA', fH', fG', fN', aS', qL', qR', qP')) : wpX_answerOfA post (xst, xow, xin, xpa, xfi, xfr, xno, xsi, xan, xkn, xen, xco, xrm, xac, K, N, Z, D, Im, W, P, vS, pO, pX, pI, fS, fP, fI, fU, fR, fO, fA, fH, fG, fN, aS, qL, qR, qP) (nI 28) := by
  have eg' : xno.toNatClampNeg = g := by rw [eg, nI_clamp (by omega)]
  have hin : vp_in xno 600 := by rw [eg]; exact vp_in_nI hg (by omega)
  have k335 : wX_answerOfA_335 post xst xow xin xpa xfi xfr xno xsi xan xkn xen xco xrm xac K N Z D Im W P vS pO pX pI fS fP fI fU fR fO fA fH fG fN aS qL qR qP := by
    unfold wX_answerOfA_335
    rw [eg']
    exact ⟨hin, nm_e ⟨hin, hA _ hp⟩⟩
  unfold wpX_answerOfA
  dsimp only
  rw [eg']
  exact xo_pre (post := post) (x := 0) ea hs eK hκ (fun hz => br_f (by decide) (br_f (by decide) (br_f (by decide) (br_f (by decide) (br_f (by decide) (br_f (by decide) (br_f (by decide) (br_f (by decide) (br_f (by decide) (br_f (by decide) (br_f (by decide) (br_f (by decide) (br_f (by decide) (br_f (by decide) (br_t rfl (k335)))))))))))))))) (fun hz => br_f (by decide) (br_f (by decide) (br_f (by decide) (br_f (by decide) (br_f (by decide) (br_f (by decide) (br_f (by decide) (br_f (by decide) (br_f (by decide) (br_f (by decide) (br_f (by decide) (br_f (by decide) (br_f (by decide) (br_f (by decide) (br_t rfl (k335))))))))))))))))
theorem xo_29 {xst xow xin xpa xfi xfr xno xsi xan xkn xen xco xrm xac : Int32} {K N Z D Im W P vS pO pX pI fS fP fI fU fR fO fA fH fG fN aS qL qR qP : Nat → Int32} {xst' xow' xin' xpa' xfi' xfr' xno' xsi' xan' xkn' xen' xco' xrm' xac' : Int32} {K' N' Z' D' Im' W' P' vS' pO' pX' pI' fS' fP' fI' fU' fR' fO' fA' fH' fG' fN' aS' qL' qR' qP' : Nat → Int32} {post : SX → Prop} {g s κ : Nat} (eg : xno = nI g) (hg : g < 600) (ea : xan = nI s) (hs : s < 653) (eK : K s = nI κ) (hκ : κ ≤ 5) (hA : ∀ Q : SX → Prop, Q (xst', xow', xin', xpa', xfi', xfr', xno', xsi', xan', xkn', xen', xco', xrm', xac', K', N', Z', D', Im', W', P', vS', pO', pX', pI', fS', fP', fI', fU', fR', fO', fA', fH', fG', fN', aS', qL', qR', qP') → wpX_apply Q (xst, xow, xin, xpa, xfi, xfr, xno, xsi, xan, xkn, xen, xco, xrm, xac, K, N, Z, D, Im, W, P, vS, pO, pX, pI, fS, fP, fI, fU, fR, fO, fA, (upd fH g xan), fG, fN, aS, qL, qR, qP) (nI 1) (fI g)) (hp : post (xst', xow', xin', xpa', xfi', xfr', xno', xsi', xan', xkn', xen', xco', xrm', xac', K', N', Z', D', Im', W', P', vS', pO', pX', pI', fS', fP', fI', fU', fR', fO', fA', fH', fG', fN', aS', qL', qR', qP')) : wpX_answerOfA post (xst, xow, xin, xpa, xfi, xfr, xno, xsi, xan, xkn, xen, xco, xrm, xac, K, N, Z, D, Im, W, P, vS, pO, pX, pI, fS, fP, fI, fU, fR, fO, fA, fH, fG, fN, aS, qL, qR, qP) (nI 29) := by
  have eg' : xno.toNatClampNeg = g := by rw [eg, nI_clamp (by omega)]
  have hin : vp_in xno 600 := by rw [eg]; exact vp_in_nI hg (by omega)
  have k335 : wX_answerOfA_335 post xst xow xin xpa xfi xfr xno xsi xan xkn xen xco xrm xac K N Z D Im W P vS pO pX pI fS fP fI fU fR fO fA fH fG fN aS qL qR qP := by
    unfold wX_answerOfA_335
    rw [eg']
    exact ⟨hin, nm_e ⟨hin, hA _ hp⟩⟩
  unfold wpX_answerOfA
  dsimp only
  rw [eg']
  exact xo_pre (post := post) (x := 0) ea hs eK hκ (fun hz => br_f (by decide) (br_f (by decide) (br_f (by decide) (br_f (by decide) (br_f (by decide) (br_f (by decide) (br_f (by decide) (br_f (by decide) (br_f (by decide) (br_f (by decide) (br_f (by decide) (br_f (by decide) (br_f (by decide) (br_f (by decide) (br_f (by decide) (br_t rfl (k335))))))))))))))))) (fun hz => br_f (by decide) (br_f (by decide) (br_f (by decide) (br_f (by decide) (br_f (by decide) (br_f (by decide) (br_f (by decide) (br_f (by decide) (br_f (by decide) (br_f (by decide) (br_f (by decide) (br_f (by decide) (br_f (by decide) (br_f (by decide) (br_f (by decide) (br_t rfl (k335)))))))))))))))))
theorem xo_30m {xst xow xin xpa xfi xfr xno xsi xan xkn xen xco xrm xac : Int32} {K N Z D Im W P vS pO pX pI fS fP fI fU fR fO fA fH fG fN aS qL qR qP : Nat → Int32} {post : SX → Prop} {g s κ : Nat} (eg : xno = nI g) (hg : g < 600) (ea : xan = nI s) (hs : s < 653) (eK : K s = nI κ) (hκ : κ ≤ 5) (he : κ < 2 ↔ True) (hp : post (xst, xow, xin, xpa, xfi, xfr, xno, 5, xan, xkn, xen, xco, xrm, xac, K, N, Z, D, Im, W, P, vS, pO, pX, pI, fS, fP, fI, fU, fR, fO, fA, fH, fG, fN, aS, qL, qR, qP)) : wpX_answerOfA post (xst, xow, xin, xpa, xfi, xfr, xno, xsi, xan, xkn, xen, xco, xrm, xac, K, N, Z, D, Im, W, P, vS, pO, pX, pI, fS, fP, fI, fU, fR, fO, fA, fH, fG, fN, aS, qL, qR, qP) (nI 30) := by
  have eg' : xno.toNatClampNeg = g := by rw [eg, nI_clamp (by omega)]
  have hin : vp_in xno 600 := by rw [eg]; exact vp_in_nI hg (by omega)
  have k179 : ∀ r : Int32, (r = 0 ∧ 2 ≤ κ ∨ r = 1 ∧ κ < 2) → wX_answerOfA_179 post (nI 30) r xst xow xin xpa xfi xfr xno xsi xan xkn xen xco xrm xac K N Z D Im W P vS pO pX pI fS fP fI fU fR fO fA fH fG fN aS qL qR qP := by
    intro r hr
    unfold wX_answerOfA_179
    refine br_t rfl ?_
    unfold wX_answerOfA_191
    rcases hr with ⟨rfl, z⟩ | ⟨rfl, z⟩
    · exact absurd (he.mpr trivial) (by omega)
    · exact br_t rfl hp
  unfold wpX_answerOfA
  dsimp only
  rw [eg']
  exact xo_pre (post := post) (x := 0) ea hs eK hκ (fun hz => br_f (by decide) (br_f (by decide) (br_f (by decide) (br_f (by decide) (br_f (by decide) (br_f (by decide) (br_f (by decide) (br_f (by decide) (br_f (by decide) (br_f (by decide) (br_f (by decide) (br_f (by decide) (br_f (by decide) (br_f (by decide) (br_f (by decide) (br_f (by decide) (br_t rfl (k179 0 (Or.inl ⟨rfl, hz⟩))))))))))))))))))) (fun hz => br_f (by decide) (br_f (by decide) (br_f (by decide) (br_f (by decide) (br_f (by decide) (br_f (by decide) (br_f (by decide) (br_f (by decide) (br_f (by decide) (br_f (by decide) (br_f (by decide) (br_f (by decide) (br_f (by decide) (br_f (by decide) (br_f (by decide) (br_f (by decide) (br_t rfl (k179 1 (Or.inr ⟨rfl, hz⟩)))))))))))))))))))
theorem xo_30a {xst xow xin xpa xfi xfr xno xsi xan xkn xen xco xrm xac : Int32} {K N Z D Im W P vS pO pX pI fS fP fI fU fR fO fA fH fG fN aS qL qR qP : Nat → Int32} {xst' xow' xin' xpa' xfi' xfr' xno' xsi' xan' xkn' xen' xco' xrm' xac' : Int32} {K' N' Z' D' Im' W' P' vS' pO' pX' pI' fS' fP' fI' fU' fR' fO' fA' fH' fG' fN' aS' qL' qR' qP' : Nat → Int32} {post : SX → Prop} {g s κ : Nat} (eg : xno = nI g) (hg : g < 600) (ea : xan = nI s) (hs : s < 653) (eK : K s = nI κ) (hκ : κ ≤ 5) (he : κ < 2 ↔ False) (hA : ∀ Q : SX → Prop, Q (xst', xow', xin', xpa', xfi', xfr', xno', xsi', xan', xkn', xen', xco', xrm', xac', K', N', Z', D', Im', W', P', vS', pO', pX', pI', fS', fP', fI', fU', fR', fO', fA', fH', fG', fN', aS', qL', qR', qP') → wpX_apply Q (xst, xow, xin, xpa, xfi, xfr, xno, xsi, xan, xkn, xen, xco, xrm, xac, K, N, Z, D, Im, W, P, vS, pO, pX, pI, fS, fP, fI, fU, fR, fO, fA, fH, fG, fN, aS, qL, qR, qP) (nI 1) (fI g)) (hp : post (xst', xow', xin', xpa', xfi', xfr', xno', xsi', xan', xkn', xen', xco', xrm', xac', K', N', Z', D', Im', W', P', vS', pO', pX', pI', fS', fP', fI', fU', fR', fO', fA', fH', fG', fN', aS', qL', qR', qP')) : wpX_answerOfA post (xst, xow, xin, xpa, xfi, xfr, xno, xsi, xan, xkn, xen, xco, xrm, xac, K, N, Z, D, Im, W, P, vS, pO, pX, pI, fS, fP, fI, fU, fR, fO, fA, fH, fG, fN, aS, qL, qR, qP) (nI 30) := by
  have eg' : xno.toNatClampNeg = g := by rw [eg, nI_clamp (by omega)]
  have hin : vp_in xno 600 := by rw [eg]; exact vp_in_nI hg (by omega)
  have k179 : ∀ r : Int32, (r = 0 ∧ 2 ≤ κ ∨ r = 1 ∧ κ < 2) → wX_answerOfA_179 post (nI 30) r xst xow xin xpa xfi xfr xno xsi xan xkn xen xco xrm xac K N Z D Im W P vS pO pX pI fS fP fI fU fR fO fA fH fG fN aS qL qR qP := by
    intro r hr
    unfold wX_answerOfA_179
    refine br_t rfl ?_
    unfold wX_answerOfA_191
    rw [eg']
    rcases hr with ⟨rfl, z⟩ | ⟨rfl, z⟩
    · exact br_f (by decide) ⟨hin, hA _ hp⟩
    · exact (he.mp z).elim
  unfold wpX_answerOfA
  dsimp only
  rw [eg']
  exact xo_pre (post := post) (x := 0) ea hs eK hκ (fun hz => br_f (by decide) (br_f (by decide) (br_f (by decide) (br_f (by decide) (br_f (by decide) (br_f (by decide) (br_f (by decide) (br_f (by decide) (br_f (by decide) (br_f (by decide) (br_f (by decide) (br_f (by decide) (br_f (by decide) (br_f (by decide) (br_f (by decide) (br_f (by decide) (br_t rfl (k179 0 (Or.inl ⟨rfl, hz⟩))))))))))))))))))) (fun hz => br_f (by decide) (br_f (by decide) (br_f (by decide) (br_f (by decide) (br_f (by decide) (br_f (by decide) (br_f (by decide) (br_f (by decide) (br_f (by decide) (br_f (by decide) (br_f (by decide) (br_f (by decide) (br_f (by decide) (br_f (by decide) (br_f (by decide) (br_f (by decide) (br_t rfl (k179 1 (Or.inr ⟨rfl, hz⟩)))))))))))))))))))
theorem xo_31m {xst xow xin xpa xfi xfr xno xsi xan xkn xen xco xrm xac : Int32} {K N Z D Im W P vS pO pX pI fS fP fI fU fR fO fA fH fG fN aS qL qR qP : Nat → Int32} {post : SX → Prop} {g s κ : Nat} (eg : xno = nI g) (hg : g < 600) (ea : xan = nI s) (hs : s < 653) (eK : K s = nI κ) (hκ : κ ≤ 5) (he : κ < 2 ↔ False) (hp : post (xst, xow, xin, xpa, xfi, xfr, xno, 5, xan, xkn, xen, xco, xrm, xac, K, N, Z, D, Im, W, P, vS, pO, pX, pI, fS, fP, fI, fU, fR, fO, fA, fH, fG, fN, aS, qL, qR, qP)) : wpX_answerOfA post (xst, xow, xin, xpa, xfi, xfr, xno, xsi, xan, xkn, xen, xco, xrm, xac, K, N, Z, D, Im, W, P, vS, pO, pX, pI, fS, fP, fI, fU, fR, fO, fA, fH, fG, fN, aS, qL, qR, qP) (nI 31) := by
  have eg' : xno.toNatClampNeg = g := by rw [eg, nI_clamp (by omega)]
  have hin : vp_in xno 600 := by rw [eg]; exact vp_in_nI hg (by omega)
  have k179 : ∀ r : Int32, (r = 0 ∧ 2 ≤ κ ∨ r = 1 ∧ κ < 2) → wX_answerOfA_179 post (nI 31) r xst xow xin xpa xfi xfr xno xsi xan xkn xen xco xrm xac K N Z D Im W P vS pO pX pI fS fP fI fU fR fO fA fH fG fN aS qL qR qP := by
    intro r hr
    unfold wX_answerOfA_179
    refine br_f (by decide) ?_
    unfold wX_answerOfA_191
    rcases hr with ⟨rfl, z⟩ | ⟨rfl, z⟩
    · exact br_t rfl hp
    · exact (he.mp z).elim
  unfold wpX_answerOfA
  dsimp only
  rw [eg']
  exact xo_pre (post := post) (x := 0) ea hs eK hκ (fun hz => br_f (by decide) (br_f (by decide) (br_f (by decide) (br_f (by decide) (br_f (by decide) (br_f (by decide) (br_f (by decide) (br_f (by decide) (br_f (by decide) (br_f (by decide) (br_f (by decide) (br_f (by decide) (br_f (by decide) (br_f (by decide) (br_f (by decide) (br_f (by decide) (br_f (by decide) (br_t rfl (k179 0 (Or.inl ⟨rfl, hz⟩)))))))))))))))))))) (fun hz => br_f (by decide) (br_f (by decide) (br_f (by decide) (br_f (by decide) (br_f (by decide) (br_f (by decide) (br_f (by decide) (br_f (by decide) (br_f (by decide) (br_f (by decide) (br_f (by decide) (br_f (by decide) (br_f (by decide) (br_f (by decide) (br_f (by decide) (br_f (by decide) (br_f (by decide) (br_t rfl (k179 1 (Or.inr ⟨rfl, hz⟩))))))))))))))))))))
theorem xo_31a {xst xow xin xpa xfi xfr xno xsi xan xkn xen xco xrm xac : Int32} {K N Z D Im W P vS pO pX pI fS fP fI fU fR fO fA fH fG fN aS qL qR qP : Nat → Int32} {xst' xow' xin' xpa' xfi' xfr' xno' xsi' xan' xkn' xen' xco' xrm' xac' : Int32} {K' N' Z' D' Im' W' P' vS' pO' pX' pI' fS' fP' fI' fU' fR' fO' fA' fH' fG' fN' aS' qL' qR' qP' : Nat → Int32} {post : SX → Prop} {g s κ : Nat} (eg : xno = nI g) (hg : g < 600) (ea : xan = nI s) (hs : s < 653) (eK : K s = nI κ) (hκ : κ ≤ 5) (he : κ < 2 ↔ True) (hA : ∀ Q : SX → Prop, Q (xst', xow', xin', xpa', xfi', xfr', xno', xsi', xan', xkn', xen', xco', xrm', xac', K', N', Z', D', Im', W', P', vS', pO', pX', pI', fS', fP', fI', fU', fR', fO', fA', fH', fG', fN', aS', qL', qR', qP') → wpX_apply Q (xst, xow, xin, xpa, xfi, xfr, xno, xsi, xan, xkn, xen, xco, xrm, xac, K, N, Z, D, Im, W, P, vS, pO, pX, pI, fS, fP, fI, fU, fR, fO, fA, fH, fG, fN, aS, qL, qR, qP) (nI 1) (fI g)) (hp : post (xst', xow', xin', xpa', xfi', xfr', xno', xsi', xan', xkn', xen', xco', xrm', xac', K', N', Z', D', Im', W', P', vS', pO', pX', pI', fS', fP', fI', fU', fR', fO', fA', fH', fG', fN', aS', qL', qR', qP')) : wpX_answerOfA post (xst, xow, xin, xpa, xfi, xfr, xno, xsi, xan, xkn, xen, xco, xrm, xac, K, N, Z, D, Im, W, P, vS, pO, pX, pI, fS, fP, fI, fU, fR, fO, fA, fH, fG, fN, aS, qL, qR, qP) (nI 31) := by
  have eg' : xno.toNatClampNeg = g := by rw [eg, nI_clamp (by omega)]
  have hin : vp_in xno 600 := by rw [eg]; exact vp_in_nI hg (by omega)
  have k179 : ∀ r : Int32, (r = 0 ∧ 2 ≤ κ ∨ r = 1 ∧ κ < 2) → wX_answerOfA_179 post (nI 31) r xst xow xin xpa xfi xfr xno xsi xan xkn xen xco xrm xac K N Z D Im W P vS pO pX pI fS fP fI fU fR fO fA fH fG fN aS qL qR qP := by
    intro r hr
    unfold wX_answerOfA_179
    refine br_f (by decide) ?_
    unfold wX_answerOfA_191
    rw [eg']
    rcases hr with ⟨rfl, z⟩ | ⟨rfl, z⟩
    · exact absurd (he.mpr trivial) (by omega)
    · exact br_f (by decide) ⟨hin, hA _ hp⟩
  unfold wpX_answerOfA
  dsimp only
  rw [eg']
  exact xo_pre (post := post) (x := 0) ea hs eK hκ (fun hz => br_f (by decide) (br_f (by decide) (br_f (by decide) (br_f (by decide) (br_f (by decide) (br_f (by decide) (br_f (by decide) (br_f (by decide) (br_f (by decide) (br_f (by decide) (br_f (by decide) (br_f (by decide) (br_f (by decide) (br_f (by decide) (br_f (by decide) (br_f (by decide) (br_f (by decide) (br_t rfl (k179 0 (Or.inl ⟨rfl, hz⟩)))))))))))))))))))) (fun hz => br_f (by decide) (br_f (by decide) (br_f (by decide) (br_f (by decide) (br_f (by decide) (br_f (by decide) (br_f (by decide) (br_f (by decide) (br_f (by decide) (br_f (by decide) (br_f (by decide) (br_f (by decide) (br_f (by decide) (br_f (by decide) (br_f (by decide) (br_f (by decide) (br_f (by decide) (br_t rfl (k179 1 (Or.inr ⟨rfl, hz⟩))))))))))))))))))))
theorem xo_32 {xst xow xin xpa xfi xfr xno xsi xan xkn xen xco xrm xac : Int32} {K N Z D Im W P vS pO pX pI fS fP fI fU fR fO fA fH fG fN aS qL qR qP : Nat → Int32} {post : SX → Prop} {g s κ : Nat} (eg : xno = nI g) (hg : g < 600) (ea : xan = nI s) (hs : s < 653) (eK : K s = nI κ) (hκ : κ ≤ 5) {gv : Nat} (eG : fG g = nI gv) (h1 : 2 ≤ κ → post (xst, xow, xin, xpa, xfi, xfr, xno, 1, xan, xkn, xen, xco, xrm, xac, K, N, Z, D, Im, W, P, vS, pO, pX, pI, fS, fP, fI, fU, fR, fO, fA, fH, (upd fG g (nI (gv + 1))), fN, aS, qL, qR, qP)) (h0 : κ < 2 → post (xst, xow, xin, xpa, xfi, xfr, xno, 0, xan, xkn, xen, xco, xrm, xac, K, N, Z, D, Im, W, P, vS, pO, pX, pI, fS, fP, fI, fU, fR, fO, fA, fH, (upd fG g (nI gv)), fN, aS, qL, qR, qP)) : wpX_answerOfA post (xst, xow, xin, xpa, xfi, xfr, xno, xsi, xan, xkn, xen, xco, xrm, xac, K, N, Z, D, Im, W, P, vS, pO, pX, pI, fS, fP, fI, fU, fR, fO, fA, fH, fG, fN, aS, qL, qR, qP) (nI 32) := by
  have eg' : xno.toNatClampNeg = g := by rw [eg, nI_clamp (by omega)]
  have hin : vp_in xno 600 := by rw [eg]; exact vp_in_nI hg (by omega)
  have k238a : 2 ≤ κ → wX_answerOfA_238 post 0 1 (fG g) xno xst xow xin xpa xfi xfr xno xsi xan xkn xen xco xrm xac K N Z D Im W P vS pO pX pI fS fP fI fU fR fO fA fH fG fN aS qL qR qP := by
    intro z
    unfold wX_answerOfA_238
    rw [eg', eG, nI_1]
    exact ⟨hin, nm_e (br_t rfl (h1 z))⟩
  have k238b : κ < 2 → wX_answerOfA_238 post 1 0 (fG g) xno xst xow xin xpa xfi xfr xno xsi xan xkn xen xco xrm xac K N Z D Im W P vS pO pX pI fS fP fI fU fR fO fA fH fG fN aS qL qR qP := by
    intro z
    unfold wX_answerOfA_238
    rw [eg', eG, show nI gv + 0 = nI gv from nI_add gv 0]
    exact ⟨hin, nm_e (br_f (by decide) (h0 z))⟩
  unfold wpX_answerOfA
  dsimp only
  rw [eg']
  exact xo_pre (post := post) (x := 0) ea hs eK hκ (fun hz => br_f (by decide) (br_f (by decide) (br_f (by decide) (br_f (by decide) (br_f (by decide) (br_f (by decide) (br_f (by decide) (br_f (by decide) (br_f (by decide) (br_f (by decide) (br_f (by decide) (br_f (by decide) (br_f (by decide) (br_f (by decide) (br_f (by decide) (br_f (by decide) (br_f (by decide) (br_f (by decide) (br_t rfl (⟨hin, br_t rfl (k238a hz)⟩)))))))))))))))))))) (fun hz => br_f (by decide) (br_f (by decide) (br_f (by decide) (br_f (by decide) (br_f (by decide) (br_f (by decide) (br_f (by decide) (br_f (by decide) (br_f (by decide) (br_f (by decide) (br_f (by decide) (br_f (by decide) (br_f (by decide) (br_f (by decide) (br_f (by decide) (br_f (by decide) (br_f (by decide) (br_f (by decide) (br_t rfl (⟨hin, br_f (by decide) (k238b hz)⟩))))))))))))))))))))
theorem xo_bind {xst xow xin xpa xfi xfr xno xsi xan xkn xen xco xrm xac : Int32} {K N Z D Im W P vS pO pX pI fS fP fI fU fR fO fA fH fG fN aS qL qR qP : Nat → Int32} {post : SX → Prop} {g q x : Nat} (eg : xno = nI g) (hg : g < 600) (eP : fP g = nI q) (hq : q < 40) (eX : pX q = nI x) (hx : x < 3) (hp : post (xst, xow, xin, xpa, xfi, xfr, xno, xsi, xan, xkn, xen, xco, xrm, xac, K, N, Z, D, Im, W, P, vS, pO, pX, pI, fS, fP, fI, fU, fR, fO, fA, fH, fG, (upd fN (g * 3 + x) xan), aS, qL, qR, qP)) : wpX_bindName post (xst, xow, xin, xpa, xfi, xfr, xno, xsi, xan, xkn, xen, xco, xrm, xac, K, N, Z, D, Im, W, P, vS, pO, pX, pI, fS, fP, fI, fU, fR, fO, fA, fH, fG, fN, aS, qL, qR, qP) := by
  subst eg
  have eg' : (nI g).toNatClampNeg = g := nI_clamp (by omega)
  have hin : vp_in (nI g) 600 := vp_in_nI hg (by omega)
  unfold wpX_bindName
  dsimp only
  rw [eg', eP, nI_clamp (show q < 2 ^ 31 by omega), eX, xi_3, nI_clamp (show g * 3 + x < 2 ^ 31 by omega)]
  exact ⟨hin, vp_in_nI hq (by omega), vp_in_nI (by omega) (by omega), nm_e hp⟩
theorem xo_33 {xst xow xin xpa xfi xfr xno xsi xan xkn xen xco xrm xac : Int32} {K N Z D Im W P vS pO pX pI fS fP fI fU fR fO fA fH fG fN aS qL qR qP : Nat → Int32} {xst' xow' xin' xpa' xfi' xfr' xno' xsi' xan' xkn' xen' xco' xrm' xac' : Int32} {K' N' Z' D' Im' W' P' vS' pO' pX' pI' fS' fP' fI' fU' fR' fO' fA' fH' fG' fN' aS' qL' qR' qP' : Nat → Int32} {post : SX → Prop} {g s κ : Nat} (eg : xno = nI g) (hg : g < 600) (ea : xan = nI s) (hs : s < 653) (eK : K s = nI κ) (hκ : κ ≤ 5) {q x : Nat} (eP : fP g = nI q) (hq : q < 40) (eX : pX q = nI x) (hx3 : x < 3) (hA : ∀ Q : SX → Prop, Q (xst', xow', xin', xpa', xfi', xfr', xno', xsi', xan', xkn', xen', xco', xrm', xac', K', N', Z', D', Im', W', P', vS', pO', pX', pI', fS', fP', fI', fU', fR', fO', fA', fH', fG', fN', aS', qL', qR', qP') → wpX_apply Q (xst, xow, xin, xpa, xfi, xfr, xno, xsi, xan, xkn, xen, xco, xrm, xac, K, N, Z, D, Im, W, P, vS, pO, pX, pI, fS, fP, fI, fU, fR, fO, fA, fH, fG, (upd fN (g * 3 + x) xan), aS, qL, qR, qP) (nI 1) (fI g)) (hp : post (xst', xow', xin', xpa', xfi', xfr', xno', xsi', xan', xkn', xen', xco', xrm', xac', K', N', Z', D', Im', W', P', vS', pO', pX', pI', fS', fP', fI', fU', fR', fO', fA', fH', fG', fN', aS', qL', qR', qP')) : wpX_answerOfA post (xst, xow, xin, xpa, xfi, xfr, xno, xsi, xan, xkn, xen, xco, xrm, xac, K, N, Z, D, Im, W, P, vS, pO, pX, pI, fS, fP, fI, fU, fR, fO, fA, fH, fG, fN, aS, qL, qR, qP) (nI 33) := by
  have eg' : xno.toNatClampNeg = g := by rw [eg, nI_clamp (by omega)]
  have hin : vp_in xno 600 := by rw [eg]; exact vp_in_nI hg (by omega)
  unfold wpX_answerOfA
  dsimp only
  rw [eg']
  exact xo_pre (post := post) (x := 0) ea hs eK hκ (fun hz => br_f (by decide) (br_f (by decide) (br_f (by decide) (br_f (by decide) (br_f (by decide) (br_f (by decide) (br_f (by decide) (br_f (by decide) (br_f (by decide) (br_f (by decide) (br_f (by decide) (br_f (by decide) (br_f (by decide) (br_f (by decide) (br_f (by decide) (br_f (by decide) (br_f (by decide) (br_f (by decide) (br_f (by decide) (br_t rfl (xo_bind eg hg eP hq eX hx3 ⟨hin, by rw [eg']; exact hA _ hp⟩))))))))))))))))))))) (fun hz => br_f (by decide) (br_f (by decide) (br_f (by decide) (br_f (by decide) (br_f (by decide) (br_f (by decide) (br_f (by decide) (br_f (by decide) (br_f (by decide) (br_f (by decide) (br_f (by decide) (br_f (by decide) (br_f (by decide) (br_f (by decide) (br_f (by decide) (br_f (by decide) (br_f (by decide) (br_f (by decide) (br_f (by decide) (br_t rfl (xo_bind eg hg eP hq eX hx3 ⟨hin, by rw [eg']; exact hA _ hp⟩)))))))))))))))))))))
theorem xo_34 {xst xow xin xpa xfi xfr xno xsi xan xkn xen xco xrm xac : Int32} {K N Z D Im W P vS pO pX pI fS fP fI fU fR fO fA fH fG fN aS qL qR qP : Nat → Int32} {xst' xow' xin' xpa' xfi' xfr' xno' xsi' xan' xkn' xen' xco' xrm' xac' : Int32} {K' N' Z' D' Im' W' P' vS' pO' pX' pI' fS' fP' fI' fU' fR' fO' fA' fH' fG' fN' aS' qL' qR' qP' : Nat → Int32} {post : SX → Prop} {g s κ : Nat} (eg : xno = nI g) (hg : g < 600) (ea : xan = nI s) (hs : s < 653) (eK : K s = nI κ) (hκ : κ ≤ 5) {r : Nat} (hr : (2 ≤ κ → r = 1) ∧ (κ < 2 → r = 2)) (hA : ∀ Q : SX → Prop, Q (xst', xow', xin', xpa', xfi', xfr', xno', xsi', xan', xkn', xen', xco', xrm', xac', K', N', Z', D', Im', W', P', vS', pO', pX', pI', fS', fP', fI', fU', fR', fO', fA', fH', fG', fN', aS', qL', qR', qP') → wpX_apply Q (xst, xow, xin, xpa, xfi, xfr, xno, xsi, xan, xkn, xen, xco, xrm, xac, K, N, Z, D, Im, W, P, vS, pO, pX, pI, fS, fP, fI, fU, fR, fO, fA, fH, fG, fN, aS, qL, qR, qP) (nI r) (fI g)) (hp : post (xst', xow', xin', xpa', xfi', xfr', xno', xsi', xan', xkn', xen', xco', xrm', xac', K', N', Z', D', Im', W', P', vS', pO', pX', pI', fS', fP', fI', fU', fR', fO', fA', fH', fG', fN', aS', qL', qR', qP')) : wpX_answerOfA post (xst, xow, xin, xpa, xfi, xfr, xno, xsi, xan, xkn, xen, xco, xrm, xac, K, N, Z, D, Im, W, P, vS, pO, pX, pI, fS, fP, fI, fU, fR, fO, fA, fH, fG, fN, aS, qL, qR, qP) (nI 34) := by
  have eg' : xno.toNatClampNeg = g := by rw [eg, nI_clamp (by omega)]
  have hin : vp_in xno 600 := by rw [eg]; exact vp_in_nI hg (by omega)
  have k287 : ∀ j : Nat, j = r → wX_answerOfA_287 post (nI j) xst xow xin xpa xfi xfr xno xsi xan xkn xen xco xrm xac K N Z D Im W P vS pO pX pI fS fP fI fU fR fO fA fH fG fN aS qL qR qP := by
    intro j hj
    subst hj
    unfold wX_answerOfA_287
    rw [eg']
    exact ⟨hin, hA _ hp⟩
  unfold wpX_answerOfA
  dsimp only
  rw [eg']
  exact xo_pre (post := post) (x := 0) ea hs eK hκ (fun hz => br_f (by decide) (br_f (by decide) (br_f (by decide) (br_f (by decide) (br_f (by decide) (br_f (by decide) (br_f (by decide) (br_f (by decide) (br_f (by decide) (br_f (by decide) (br_f (by decide) (br_f (by decide) (br_f (by decide) (br_f (by decide) (br_f (by decide) (br_f (by decide) (br_f (by decide) (br_f (by decide) (br_f (by decide) (br_f (by decide) (br_t rfl (br_t rfl (k287 1 (hr.1 hz).symm))))))))))))))))))))))) (fun hz => br_f (by decide) (br_f (by decide) (br_f (by decide) (br_f (by decide) (br_f (by decide) (br_f (by decide) (br_f (by decide) (br_f (by decide) (br_f (by decide) (br_f (by decide) (br_f (by decide) (br_f (by decide) (br_f (by decide) (br_f (by decide) (br_f (by decide) (br_f (by decide) (br_f (by decide) (br_f (by decide) (br_f (by decide) (br_f (by decide) (br_t rfl (br_f (by decide) (k287 2 (hr.2 hz).symm)))))))))))))))))))))))
theorem xo_35 {xst xow xin xpa xfi xfr xno xsi xan xkn xen xco xrm xac : Int32} {K N Z D Im W P vS pO pX pI fS fP fI fU fR fO fA fH fG fN aS qL qR qP : Nat → Int32} {xst' xow' xin' xpa' xfi' xfr' xno' xsi' xan' xkn' xen' xco' xrm' xac' : Int32} {K' N' Z' D' Im' W' P' vS' pO' pX' pI' fS' fP' fI' fU' fR' fO' fA' fH' fG' fN' aS' qL' qR' qP' : Nat → Int32} {post : SX → Prop} {g s κ : Nat} (eg : xno = nI g) (hg : g < 600) (ea : xan = nI s) (hs : s < 653) (eK : K s = nI κ) (hκ : κ ≤ 5) {q x : Nat} (eP : fP g = nI q) (hq : q < 40) (eX : pX q = nI x) (hx3 : x < 3) (hA : ∀ Q : SX → Prop, Q (xst', xow', xin', xpa', xfi', xfr', xno', xsi', xan', xkn', xen', xco', xrm', xac', K', N', Z', D', Im', W', P', vS', pO', pX', pI', fS', fP', fI', fU', fR', fO', fA', fH', fG', fN', aS', qL', qR', qP') → wpX_apply Q (xst, xow, xin, xpa, xfi, xfr, xno, xsi, xan, xkn, xen, xco, xrm, xac, K, N, Z, D, Im, W, P, vS, pO, pX, pI, fS, fP, fI, fU, fR, fO, fA, (upd fH g 0), fG, (upd fN (g * 3 + x) xan), aS, qL, qR, qP) (nI 2) (fH g)) (hp : post (xst', xow', xin', xpa', xfi', xfr', xno', xsi', xan', xkn', xen', xco', xrm', xac', K', N', Z', D', Im', W', P', vS', pO', pX', pI', fS', fP', fI', fU', fR', fO', fA', fH', fG', fN', aS', qL', qR', qP')) : wpX_answerOfA post (xst, xow, xin, xpa, xfi, xfr, xno, xsi, xan, xkn, xen, xco, xrm, xac, K, N, Z, D, Im, W, P, vS, pO, pX, pI, fS, fP, fI, fU, fR, fO, fA, fH, fG, fN, aS, qL, qR, qP) (nI 35) := by
  have eg' : xno.toNatClampNeg = g := by rw [eg, nI_clamp (by omega)]
  have hin : vp_in xno 600 := by rw [eg]; exact vp_in_nI hg (by omega)
  unfold wpX_answerOfA
  dsimp only
  rw [eg']
  exact xo_pre (post := post) (x := 0) ea hs eK hκ (fun hz => br_f (by decide) (br_f (by decide) (br_f (by decide) (br_f (by decide) (br_f (by decide) (br_f (by decide) (br_f (by decide) (br_f (by decide) (br_f (by decide) (br_f (by decide) (br_f (by decide) (br_f (by decide) (br_f (by decide) (br_f (by decide) (br_f (by decide) (br_f (by decide) (br_f (by decide) (br_f (by decide) (br_f (by decide) (br_f (by decide) (br_f (by decide) (br_t rfl (⟨hin, nm_e ⟨hin, nm_e (xo_bind eg hg eP hq eX hx3 (hA _ hp))⟩⟩))))))))))))))))))))))) (fun hz => br_f (by decide) (br_f (by decide) (br_f (by decide) (br_f (by decide) (br_f (by decide) (br_f (by decide) (br_f (by decide) (br_f (by decide) (br_f (by decide) (br_f (by decide) (br_f (by decide) (br_f (by decide) (br_f (by decide) (br_f (by decide) (br_f (by decide) (br_f (by decide) (br_f (by decide) (br_f (by decide) (br_f (by decide) (br_f (by decide) (br_f (by decide) (br_t rfl (⟨hin, nm_e ⟨hin, nm_e (xo_bind eg hg eP hq eX hx3 (hA _ hp))⟩⟩)))))))))))))))))))))))
theorem xo_16 {xst xow xin xpa xfi xfr xno xsi xan xkn xen xco xrm xac : Int32} {K N Z D Im W P vS pO pX pI fS fP fI fU fR fO fA fH fG fN aS qL qR qP : Nat → Int32} {post : SX → Prop} {g s κ : Nat} (eg : xno = nI g) (hg : g < 600) (ea : xan = nI s) (hs : s < 653) (eK : K s = nI κ) (hκ : κ ≤ 5) {h z e : Nat} (eH : fH g = nI h) (hh : h < 653) (eZ : Z h = nI z) (hz10 : z ≤ 10) (eD : D s = nI e) (he4 : e ≤ 4) (h3 : (10 ≤ z ∨ 4 ≤ e) → post (xst, xow, xin, xpa, xfi, xfr, xno, 3, xan, xkn, xen, xco, xrm, xac, K, N, Z, D, Im, W, P, vS, pO, pX, pI, fS, fP, fI, fU, fR, fO, fA, fH, fG, fN, aS, qL, qR, qP)) (h0 : z < 10 → e < 4 → post (xst, xow, xin, xpa, xfi, xfr, xno, 0, xan, xkn, xen, xco, xrm, xac, K, N, (upd Z h (nI (z + 1))), D, Im, W, (upd P (h * 10 + z) xan), vS, pO, pX, pI, fS, fP, fI, fU, fR, fO, fA, fH, fG, fN, aS, qL, qR, qP)) : wpX_answerOfA post (xst, xow, xin, xpa, xfi, xfr, xno, xsi, xan, xkn, xen, xco, xrm, xac, K, N, Z, D, Im, W, P, vS, pO, pX, pI, fS, fP, fI, fU, fR, fO, fA, fH, fG, fN, aS, qL, qR, qP) (nI 16) := by
  have eg' : xno.toNatClampNeg = g := by rw [eg, nI_clamp (by omega)]
  have hin : vp_in xno 600 := by rw [eg]; exact vp_in_nI hg (by omega)
  have kco : ∀ Q : SX → Prop, ((10 ≤ z ∨ 4 ≤ e) → Q (xst, xow, xin, xpa, xfi, xfr, xno, 3, xan, xkn, xen, xco, xrm, xac, K, N, Z, D, Im, W, P, vS, pO, pX, pI, fS, fP, fI, fU, fR, fO, fA, fH, fG, fN, aS, qL, qR, qP)) → (z < 10 → e < 4 → Q (xst, xow, xin, xpa, xfi, xfr, xno, 0, xan, xkn, xen, xco, xrm, xac, K, N, (upd Z h (nI (z + 1))), D, Im, W, (upd P (h * 10 + z) xan), vS, pO, pX, pI, fS, fP, fI, fU, fR, fO, fA, fH, fG, fN, aS, qL, qR, qP)) → wpX_collect Q (xst, xow, xin, xpa, xfi, xfr, xno, xsi, xan, xkn, xen, xco, xrm, xac, K, N, Z, D, Im, W, P, vS, pO, pX, pI, fS, fP, fI, fU, fR, fO, fA, fH, fG, fN, aS, qL, qR, qP) := by
    intro Q q3 q0
    unfold wpX_collect
    dsimp only
    rw [eg', eH]
    refine ⟨hin, nm_e ⟨vp_in_nI hh (by omega), ?_⟩⟩
    rw [nI_clamp (show h < 2 ^ 31 by omega), eZ, ea, nI_clamp (show s < 2 ^ 31 by omega), eD]
    rw [ea] at q3 q0
    refine pk_le 10 z (fun w => q3 (Or.inl w)) (fun w => ⟨vp_in_nI hs (by omega), pk_lt e 4 (fun w' => ?_) (fun w' => q3 (Or.inr w'))⟩)
    exact xm_addTo hh eZ w (q0 w w')
  unfold wpX_answerOfA
  dsimp only
  rw [eg']
  exact xo_pre (post := post) (x := 0) ea hs eK hκ (fun hz => br_f (by decide) (br_f (by decide) (br_t rfl (kco _ h3 h0)))) (fun hz => br_f (by decide) (br_f (by decide) (br_t rfl (kco _ h3 h0))))
end
section
/-! ===== X: answers behind the first, ends ===== -/
theorem xb_make {xst xow xin xpa xfi xfr xno xsi xan xkn xen xco xrm xac : Int32} {K N Z D Im W P vS pO pX pI fS fP fI fU fR fO fA fH fG fN aS qL qR qP : Nat → Int32} {post : SX → Prop} {oq : Nat} (h1 : 23 ≤ oq) (h2 : oq ≤ 31) (hp : post (xst, xow, xin, xpa, xfi, xfr, xno, 5, xan, xkn, xen, xco, xrm, xac, K, N, Z, D, Im, W, P, vS, pO, pX, pI, fS, fP, fI, fU, fR, fO, fA, fH, fG, fN, aS, qL, qR, qP)) : wpX_answerBehindA post (xst, xow, xin, xpa, xfi, xfr, xno, xsi, xan, xkn, xen, xco, xrm, xac, K, N, Z, D, Im, W, P, vS, pO, pX, pI, fS, fP, fI, fU, fR, fO, fA, fH, fG, fN, aS, qL, qR, qP) (nI oq) := by
  unfold wpX_answerBehindA
  dsimp only
  exact br_f (nI_nlt (b := 23) h1 (by omega)) (br_f (nI_nlt (a := 31) h2 (by omega)) hp)
theorem xb_20 {xst xow xin xpa xfi xfr xno xsi xan xkn xen xco xrm xac : Int32} {K N Z D Im W P vS pO pX pI fS fP fI fU fR fO fA fH fG fN aS qL qR qP : Nat → Int32} {post : SX → Prop} {oq : Nat} (ho : oq ≤ 35) (h1 : oq < 23 ∨ 31 < oq) (h : wX_answerBehindA_20 post (nI oq) xst xow xin xpa xfi xfr xno xsi xan xkn xen xco xrm xac K N Z D Im W P vS pO pX pI fS fP fI fU fR fO fA fH fG fN aS qL qR qP) : wpX_answerBehindA post (xst, xow, xin, xpa, xfi, xfr, xno, xsi, xan, xkn, xen, xco, xrm, xac, K, N, Z, D, Im, W, P, vS, pO, pX, pI, fS, fP, fI, fU, fR, fO, fA, fH, fG, fN, aS, qL, qR, qP) (nI oq) := by
  unfold wpX_answerBehindA
  dsimp only
  refine pk_lt oq 23 (fun _ => h) (fun z => br_t (nI_lt (a := 31) (by omega) (by omega)) h)
theorem xb_fold {xst xow xin xpa xfi xfr xno xsi xan xkn xen xco xrm xac : Int32} {K N Z D Im W P vS pO pX pI fS fP fI fU fR fO fA fH fG fN aS qL qR qP : Nat → Int32} {post : SX → Prop} {g : Nat} (eg : xno = nI g) (hg : g < 600) (hp : post (xst, xow, xin, xpa, xfi, xfr, xno, 0, xan, xkn, xen, xco, xrm, xac, K, N, Z, D, Im, W, P, vS, pO, pX, pI, fS, fP, fI, fU, fR, fO, fA, (upd fH g xan), fG, fN, aS, qL, qR, qP)) : wpX_answerBehindA post (xst, xow, xin, xpa, xfi, xfr, xno, xsi, xan, xkn, xen, xco, xrm, xac, K, N, Z, D, Im, W, P, vS, pO, pX, pI, fS, fP, fI, fU, fR, fO, fA, fH, fG, fN, aS, qL, qR, qP) (nI 35) := by
  have eg' : xno.toNatClampNeg = g := by rw [eg, nI_clamp (by omega)]
  have hin : vp_in xno 600 := by rw [eg]; exact vp_in_nI hg (by omega)
  refine xb_20 (by omega) (Or.inr (by omega)) ?_
  unfold wX_answerBehindA_20
  rw [eg']
  exact br_t rfl ⟨hin, nm_e hp⟩
theorem xb_pass {xst xow xin xpa xfi xfr xno xsi xan xkn xen xco xrm xac : Int32} {K N Z D Im W P vS pO pX pI fS fP fI fU fR fO fA fH fG fN aS qL qR qP : Nat → Int32} {post : SX → Prop} {oq : Nat} (ho : oq < 35) (h1 : oq < 23 ∨ 31 < oq) (hp : post (xst, xow, xin, xpa, xfi, xfr, xno, xsi, xan, xkn, xen, xco, xrm, xac, K, N, Z, D, Im, W, P, vS, pO, pX, pI, fS, fP, fI, fU, fR, fO, fA, fH, fG, fN, aS, qL, qR, qP)) : wpX_answerBehindA post (xst, xow, xin, xpa, xfi, xfr, xno, xsi, xan, xkn, xen, xco, xrm, xac, K, N, Z, D, Im, W, P, vS, pO, pX, pI, fS, fP, fI, fU, fR, fO, fA, fH, fG, fN, aS, qL, qR, qP) (nI oq) := by
  refine xb_20 (by omega) h1 ?_
  unfold wX_answerBehindA_20
  exact br_f (fun z => absurd ((nI_eq (b := 35) (by omega) (by omega)).mp z) (by omega)) hp
theorem xe_29 {xst xow xin xpa xfi xfr xno xsi xan xkn xen xco xrm xac : Int32} {K N Z D Im W P vS pO pX pI fS fP fI fU fR fO fA fH fG fN aS qL qR qP : Nat → Int32} {post : SX → Prop} {g oq gv : Nat} (eg : xno = nI g) (hg : g < 600) (ho : oq ≤ 35) (eG : fG g = nI gv) (hgv : gv < 2 ^ 31)
    (h1 : (oq = 22 ∨ (oq = 32 ∧ gv = 0)) → wX_endOfA_29 post (nI oq) 1 xst xow xin xpa xfi xfr xno xsi xan xkn xen xco xrm xac K N Z D Im W P vS pO pX pI fS fP fI fU fR fO fA fH fG fN aS qL qR qP) (h0 : ¬ (oq = 22 ∨ (oq = 32 ∧ gv = 0)) → wX_endOfA_29 post (nI oq) 0 xst xow xin xpa xfi xfr xno xsi xan xkn xen xco xrm xac K N Z D Im W P vS pO pX pI fS fP fI fU fR fO fA fH fG fN aS qL qR qP) : wpX_endOfA post (xst, xow, xin, xpa, xfi, xfr, xno, xsi, xan, xkn, xen, xco, xrm, xac, K, N, Z, D, Im, W, P, vS, pO, pX, pI, fS, fP, fI, fU, fR, fO, fA, fH, fG, fN, aS, qL, qR, qP) (nI oq) := by
  have eg' : xno.toNatClampNeg = g := by rw [eg, nI_clamp (by omega)]
  have hin : vp_in xno 600 := by rw [eg]; exact vp_in_nI hg (by omega)
  unfold wpX_endOfA
  dsimp only
  rw [eg', eG]
  refine pk_eq oq 22 (fun e => ?_) (fun n22 => pk_eq oq 32 (fun e => ⟨hin, pk_eq gv 0 (fun z => ?_) (fun z => ?_)⟩) (fun n32 => ?_))
  · unfold wX_endOfA_24
    exact h1 (Or.inl e)
  · unfold wX_endOfA_24
    exact h1 (Or.inr ⟨e, z⟩)
  · unfold wX_endOfA_28
    exact h0 (by omega)
  · unfold wX_endOfA_28
    exact h0 (by omega)
theorem xe_ap {xst xow xin xpa xfi xfr xno xsi xan xkn xen xco xrm xac : Int32} {K N Z D Im W P vS pO pX pI fS fP fI fU fR fO fA fH fG fN aS qL qR qP : Nat → Int32} {xst' xow' xin' xpa' xfi' xfr' xno' xsi' xan' xkn' xen' xco' xrm' xac' : Int32} {K' N' Z' D' Im' W' P' vS' pO' pX' pI' fS' fP' fI' fU' fR' fO' fA' fH' fG' fN' aS' qL' qR' qP' : Nat → Int32} {post : SX → Prop} {g oq gv : Nat} (eg : xno = nI g) (hg : g < 600) (ho : oq ≤ 35) (eG : fG g = nI gv) (hgv : gv < 2 ^ 31) (hz : oq = 22 ∨ (oq = 32 ∧ gv = 0))
    (hA : ∀ Q : SX → Prop, Q (xst', xow', xin', xpa', xfi', xfr', xno', xsi', xan', xkn', xen', xco', xrm', xac', K', N', Z', D', Im', W', P', vS', pO', pX', pI', fS', fP', fI', fU', fR', fO', fA', fH', fG', fN', aS', qL', qR', qP') → wpX_apply Q (xst, xow, xin, xpa, xfi, xfr, xno, xsi, xan, xkn, xen, xco, xrm, xac, K, N, Z, D, Im, W, P, vS, pO, pX, pI, fS, fP, fI, fU, fR, fO, fA, fH, fG, fN, aS, qL, qR, qP) (nI 1) (fI g)) (hp : post (xst', xow', xin', xpa', xfi', xfr', xno', xsi', xan', xkn', xen', xco', xrm', xac', K', N', Z', D', Im', W', P', vS', pO', pX', pI', fS', fP', fI', fU', fR', fO', fA', fH', fG', fN', aS', qL', qR', qP')) : wpX_endOfA post (xst, xow, xin, xpa, xfi, xfr, xno, xsi, xan, xkn, xen, xco, xrm, xac, K, N, Z, D, Im, W, P, vS, pO, pX, pI, fS, fP, fI, fU, fR, fO, fA, fH, fG, fN, aS, qL, qR, qP) (nI oq) := by
  have eg' : xno.toNatClampNeg = g := by rw [eg, nI_clamp (by omega)]
  have hin : vp_in xno 600 := by rw [eg]; exact vp_in_nI hg (by omega)
  refine xe_29 eg hg ho eG hgv (fun _ => ?_) (fun w => absurd hz w)
  unfold wX_endOfA_29
  rw [eg']
  exact br_f (by decide) ⟨hin, hA _ hp⟩
theorem xe_end {xst xow xin xpa xfi xfr xno xsi xan xkn xen xco xrm xac : Int32} {K N Z D Im W P vS pO pX pI fS fP fI fU fR fO fA fH fG fN aS qL qR qP : Nat → Int32} {post : SX → Prop} {g oq gv : Nat} (eg : xno = nI g) (hg : g < 600) (ho : oq ≤ 35) (eG : fG g = nI gv) (hgv : gv < 2 ^ 31) (hz : ¬ (oq = 22 ∨ (oq = 32 ∧ gv = 0))) (n16 : oq ≠ 16) (n35 : oq ≠ 35) (hp : post (xst, xow, xin, xpa, xfi, xfr, xno, 2, xan, xkn, xen, xco, xrm, xac, K, N, Z, D, Im, W, P, vS, pO, pX, pI, fS, fP, fI, fU, fR, fO, fA, fH, fG, fN, aS, qL, qR, qP)) : wpX_endOfA post (xst, xow, xin, xpa, xfi, xfr, xno, xsi, xan, xkn, xen, xco, xrm, xac, K, N, Z, D, Im, W, P, vS, pO, pX, pI, fS, fP, fI, fU, fR, fO, fA, fH, fG, fN, aS, qL, qR, qP) (nI oq) := by
  refine xe_29 eg hg ho eG hgv (fun w => absurd w hz) (fun _ => ?_)
  unfold wX_endOfA_29
  exact br_t rfl (br_f (fun z => n16 ((nI_eq (b := 16) (by omega) (by omega)).mp z)) (br_f (fun z => n35 ((nI_eq (b := 35) (by omega) (by omega)).mp z)) hp))
theorem xe_fold {xst xow xin xpa xfi xfr xno xsi xan xkn xen xco xrm xac : Int32} {K N Z D Im W P vS pO pX pI fS fP fI fU fR fO fA fH fG fN aS qL qR qP : Nat → Int32} {post : SX → Prop} {g gv : Nat} (eg : xno = nI g) (hg : g < 600) (eG : fG g = nI gv) (hgv : gv < 2 ^ 31) (hp : post (xst, xow, xin, xpa, xfi, xfr, xno, 1, (fH g), xkn, xen, xco, xrm, xac, K, N, Z, D, Im, W, P, vS, pO, pX, pI, fS, fP, fI, fU, fR, fO, fA, fH, (upd fG g 1), fN, aS, qL, qR, qP)) : wpX_endOfA post (xst, xow, xin, xpa, xfi, xfr, xno, xsi, xan, xkn, xen, xco, xrm, xac, K, N, Z, D, Im, W, P, vS, pO, pX, pI, fS, fP, fI, fU, fR, fO, fA, fH, fG, fN, aS, qL, qR, qP) (nI 35) := by
  have eg' : xno.toNatClampNeg = g := by rw [eg, nI_clamp (by omega)]
  have hin : vp_in xno 600 := by rw [eg]; exact vp_in_nI hg (by omega)
  refine xe_29 eg hg (by omega) eG hgv (fun w => absurd w (by omega)) (fun _ => ?_)
  unfold wX_endOfA_29
  rw [eg']
  exact br_t rfl (br_f (by decide) (br_t rfl ⟨hin, nm_e ⟨hin, xr_give hp⟩⟩))
theorem xe_all {xst xow xin xpa xfi xfr xno xsi xan xkn xen xco xrm xac : Int32} {K N Z D Im W P vS pO pX pI fS fP fI fU fR fO fA fH fG fN aS qL qR qP : Nat → Int32} {V : Nat → Prop} {post : SX → Prop} {g gv h z : Nat} {c e q w : Nat → Nat} (eg : xno = nI g) (hg : g < 600) (eG : fG g = nI gv) (hgv : gv < 2 ^ 31) (eH : fH g = nI h) (hh : h < 653) (eK : K h = 4) (eN : N h = 0) (eZ : Z h = nI z) (hz : z ≤ 10) (hc : ns_ch V D Im W h z (fun i => P (h * 10 + i)) c e q w) (hne : ∀ t, V t → t ≠ h)
    (hp : ∀ D' Im' W' : Nat → Int32, vv_ns h 4 z 0 0 (fun i => P (h * 10 + i)) e q w K N Z D Im W P K N Z D' Im' W' P → post (xst, xow, xin, xpa, xfi, xfr, xno, 1, (nI h), xkn, xen, xco, xrm, xac, K, N, Z, D', Im', W', P, vS, pO, pX, pI, fS, fP, fI, fU, fR, fO, fA, fH, (upd fG g 1), fN, aS, qL, qR, qP)) : wpX_endOfA post (xst, xow, xin, xpa, xfi, xfr, xno, xsi, xan, xkn, xen, xco, xrm, xac, K, N, Z, D, Im, W, P, vS, pO, pX, pI, fS, fP, fI, fU, fR, fO, fA, fH, fG, fN, aS, qL, qR, qP) (nI 16) := by
  have eg' : xno.toNatClampNeg = g := by rw [eg, nI_clamp (by omega)]
  have hin : vp_in xno 600 := by rw [eg]; exact vp_in_nI hg (by omega)
  refine xe_29 eg hg (by omega) eG hgv (fun w => absurd w (by omega)) (fun _ => ?_)
  unfold wX_endOfA_29
  rw [eg', eH]
  refine br_t rfl (br_t rfl ⟨hin, nm_e ⟨hin, ?_⟩⟩)
  refine xm_ns (V := V) (c := c) (K0 := K) (N0 := N) (Z0 := Z) (P0 := P) hh hz (Or.inl ⟨rfl, rfl⟩) hc hne (fun t _ => ⟨rfl, rfl, rfl, fun _ _ => rfl⟩) eK eN eZ (fun _ _ => rfl) (fun D' Im' W' hns => ?_)
  dsimp only
  rw [eg', eH]
  exact ⟨hin, xr_give (hp D' Im' W' hns)⟩
theorem xf_fold1 {xst xow xin xpa xfi xfr xno xsi xan xkn xen xco xrm xac : Int32} {K N Z D Im W P vS pO pX pI fS fP fI fU fR fO fA fH fG fN aS qL qR qP : Nat → Int32} {xst' xow' xin' xpa' xfi' xfr' xno' xsi' xan' xkn' xen' xco' xrm' xac' : Int32} {K' N' Z' D' Im' W' P' vS' pO' pX' pI' fS' fP' fI' fU' fR' fO' fA' fH' fG' fN' aS' qL' qR' qP' : Nat → Int32} {post : SX → Prop} {g : Nat} (eg : xno = nI g) (hg : g < 600) (hA : ∀ Q : SX → Prop, Q (xst', xow', xin', xpa', xfi', xfr', xno', xsi', xan', xkn', xen', xco', xrm', xac', K', N', Z', D', Im', W', P', vS', pO', pX', pI', fS', fP', fI', fU', fR', fO', fA', fH', fG', fN', aS', qL', qR', qP') → wpX_apply Q (xst, xow, xin, xpa, xfi, xfr, xno, xsi, xan, xkn, xen, xco, xrm, xac, K, N, Z, D, Im, W, P, vS, pO, pX, pI, fS, fP, fI, fU, fR, fO, fA, fH, fG, fN, aS, qL, qR, qP) (nI 0) (fI g)) (hp : post (xst', xow', xin', xpa', xfi', xfr', xno', xsi', xan', xkn', xen', xco', xrm', xac', K', N', Z', D', Im', W', P', vS', pO', pX', pI', fS', fP', fI', fU', fR', fO', fA', fH', fG', fN', aS', qL', qR', qP')) : wpX_endBehindA post (xst, xow, xin, xpa, xfi, xfr, xno, xsi, xan, xkn, xen, xco, xrm, xac, K, N, Z, D, Im, W, P, vS, pO, pX, pI, fS, fP, fI, fU, fR, fO, fA, fH, fG, fN, aS, qL, qR, qP) (nI 35) 1 := by
  have eg' : xno.toNatClampNeg = g := by rw [eg, nI_clamp (by omega)]
  have hin : vp_in xno 600 := by rw [eg]; exact vp_in_nI hg (by omega)
  unfold wpX_endBehindA
  dsimp only
  rw [eg']
  exact br_t rfl (br_t rfl ⟨hin, hA _ hp⟩)
theorem xf_end {xst xow xin xpa xfi xfr xno xsi xan xkn xen xco xrm xac : Int32} {K N Z D Im W P vS pO pX pI fS fP fI fU fR fO fA fH fG fN aS qL qR qP : Nat → Int32} {post : SX → Prop} {oq : Nat} {ro : Int32} (h : oq = 22 ∨ oq = 32) (hp : post (xst, xow, xin, xpa, xfi, xfr, xno, 2, xan, xkn, xen, xco, xrm, xac, K, N, Z, D, Im, W, P, vS, pO, pX, pI, fS, fP, fI, fU, fR, fO, fA, fH, fG, fN, aS, qL, qR, qP)) : wpX_endBehindA post (xst, xow, xin, xpa, xfi, xfr, xno, xsi, xan, xkn, xen, xco, xrm, xac, K, N, Z, D, Im, W, P, vS, pO, pX, pI, fS, fP, fI, fU, fR, fO, fA, fH, fG, fN, aS, qL, qR, qP) (nI oq) ro := by
  unfold wpX_endBehindA
  dsimp only
  refine br_f (fun z => absurd ((nI_eq (b := 35) (by omega) (by omega)).mp z) (by omega)) ?_
  unfold wX_endBehindA_28
  exact pk_eq oq 22 (fun _ => hp) (fun n => br_t (by rw [show oq = 32 by omega]; rfl) hp)
theorem xf_back {xst xow xin xpa xfi xfr xno xsi xan xkn xen xco xrm xac : Int32} {K N Z D Im W P vS pO pX pI fS fP fI fU fR fO fA fH fG fN aS qL qR qP : Nat → Int32} {post : SX → Prop} {g oq : Nat} {ro : Int32} (eg : xno = nI g) (hg : g < 600) (ho : oq ≤ 35) (n22 : oq ≠ 22) (n32 : oq ≠ 32) (h35 : oq = 35 → ¬ ro = 1) (hp : post (xst, xow, xin, xpa, xfi, xfr, xno, 0, xan, xkn, xen, xco, xrm, xac, K, N, Z, D, Im, W, P, vS, pO, pX, pI, fS, fP, fI, fU, fR, fO, (upd fA g (fO g)), fH, fG, fN, aS, qL, qR, qP)) : wpX_endBehindA post (xst, xow, xin, xpa, xfi, xfr, xno, xsi, xan, xkn, xen, xco, xrm, xac, K, N, Z, D, Im, W, P, vS, pO, pX, pI, fS, fP, fI, fU, fR, fO, fA, fH, fG, fN, aS, qL, qR, qP) (nI oq) ro := by
  have eg' : xno.toNatClampNeg = g := by rw [eg, nI_clamp (by omega)]
  have hin : vp_in xno 600 := by rw [eg]; exact vp_in_nI hg (by omega)
  have k28 : wX_endBehindA_28 post (nI oq) xst xow xin xpa xfi xfr xno xsi xan xkn xen xco xrm xac K N Z D Im W P vS pO pX pI fS fP fI fU fR fO fA fH fG fN aS qL qR qP := by
    unfold wX_endBehindA_28
    rw [eg']
    exact br_f (fun z => n22 ((nI_eq (b := 22) (by omega) (by omega)).mp z)) (br_f (fun z => n32 ((nI_eq (b := 32) (by omega) (by omega)).mp z)) ⟨hin, hin, nm_e hp⟩)
  unfold wpX_endBehindA
  dsimp only
  exact pk_eq oq 35 (fun e => br_f (h35 e) k28) (fun _ => k28)
end
section
/-! ===== X: leaves ===== -/
theorem xl_0 {xst xow xin xpa xfi xfr xno xsi xan xkn xen xco xrm xac : Int32} {K N Z D Im W P vS pO pX pI fS fP fI fU fR fO fA fH fG fN aS qL qR qP : Nat → Int32} {post : SX → Prop} {g q s : Nat} (eg : xno = nI g) (hg : g < 600) (eP : fP g = nI q) (hq : q < 40) (eO : pO q = nI 0) (eI : fI g = nI s) (hs : s < 653) (hp : post (xst, xow, xin, xpa, xfi, xfr, xno, 1, (nI s), xkn, xen, xco, xrm, xac, K, N, Z, D, Im, W, P, vS, pO, pX, pI, fS, fP, fI, fU, fR, fO, fA, fH, fG, fN, aS, qL, qR, qP)) : wpX_answerLeaf post (xst, xow, xin, xpa, xfi, xfr, xno, xsi, xan, xkn, xen, xco, xrm, xac, K, N, Z, D, Im, W, P, vS, pO, pX, pI, fS, fP, fI, fU, fR, fO, fA, fH, fG, fN, aS, qL, qR, qP) := by
  have eg' : xno.toNatClampNeg = g := by rw [eg, nI_clamp (by omega)]
  have hin : vp_in xno 600 := by rw [eg]; exact vp_in_nI hg (by omega)
  have hiq : vp_in (nI q) 40 := vp_in_nI hq (by omega)
  have his : vp_in (nI s) 653 := vp_in_nI hs (by omega)
  have es : (nI s).toNatClampNeg = s := nI_clamp (by omega)
  unfold wpX_answerLeaf
  dsimp only
  rw [eg', eP, nI_clamp (show q < 2 ^ 31 by omega), eO, eI]
  exact ⟨hin, hiq, nm_e ⟨hin, nm_e ⟨hin, hiq, nm_e (br_f (by decide) (br_f (by decide) (br_t rfl (xr_give hp))))⟩⟩⟩
theorem xl_1 {xst xow xin xpa xfi xfr xno xsi xan xkn xen xco xrm xac : Int32} {K N Z D Im W P vS pO pX pI fS fP fI fU fR fO fA fH fG fN aS qL qR qP : Nat → Int32} {post : SX → Prop} {g q s : Nat} (eg : xno = nI g) (hg : g < 600) (eP : fP g = nI q) (hq : q < 40) (eO : pO q = nI 1) (eI : fI g = nI s) (hs : s < 653) (hp : post (xst, xow, xin, xpa, xfi, xfr, xno, 1, (nI 0), xkn, xen, xco, xrm, xac, K, N, Z, D, Im, W, P, vS, pO, pX, pI, fS, fP, fI, fU, fR, fO, fA, fH, fG, fN, aS, qL, qR, qP)) : wpX_answerLeaf post (xst, xow, xin, xpa, xfi, xfr, xno, xsi, xan, xkn, xen, xco, xrm, xac, K, N, Z, D, Im, W, P, vS, pO, pX, pI, fS, fP, fI, fU, fR, fO, fA, fH, fG, fN, aS, qL, qR, qP) := by
  have eg' : xno.toNatClampNeg = g := by rw [eg, nI_clamp (by omega)]
  have hin : vp_in xno 600 := by rw [eg]; exact vp_in_nI hg (by omega)
  have hiq : vp_in (nI q) 40 := vp_in_nI hq (by omega)
  have his : vp_in (nI s) 653 := vp_in_nI hs (by omega)
  have es : (nI s).toNatClampNeg = s := nI_clamp (by omega)
  have k124 : wX_answerLeaf_124 post (nI 1) xst xow xin xpa xfi xfr xno xsi xan xkn xen xco xrm xac K N Z D Im W P vS pO pX pI fS fP fI fU fR fO fA fH fG fN aS qL qR qP := by
    unfold wX_answerLeaf_124
    rw [nI_pred]
    exact xr_give hp
  unfold wpX_answerLeaf
  dsimp only
  rw [eg', eP, nI_clamp (show q < 2 ^ 31 by omega), eO, eI]
  exact ⟨hin, hiq, nm_e ⟨hin, nm_e ⟨hin, hiq, nm_e (br_f (by decide) (br_f (by decide) (br_f (by decide) (br_t rfl (k124)))))⟩⟩⟩
theorem xl_2 {xst xow xin xpa xfi xfr xno xsi xan xkn xen xco xrm xac : Int32} {K N Z D Im W P vS pO pX pI fS fP fI fU fR fO fA fH fG fN aS qL qR qP : Nat → Int32} {post : SX → Prop} {g q s : Nat} (eg : xno = nI g) (hg : g < 600) (eP : fP g = nI q) (hq : q < 40) (eO : pO q = nI 2) (eI : fI g = nI s) (hs : s < 653) (hp : post (xst, xow, xin, xpa, xfi, xfr, xno, 1, (nI 1), xkn, xen, xco, xrm, xac, K, N, Z, D, Im, W, P, vS, pO, pX, pI, fS, fP, fI, fU, fR, fO, fA, fH, fG, fN, aS, qL, qR, qP)) : wpX_answerLeaf post (xst, xow, xin, xpa, xfi, xfr, xno, xsi, xan, xkn, xen, xco, xrm, xac, K, N, Z, D, Im, W, P, vS, pO, pX, pI, fS, fP, fI, fU, fR, fO, fA, fH, fG, fN, aS, qL, qR, qP) := by
  have eg' : xno.toNatClampNeg = g := by rw [eg, nI_clamp (by omega)]
  have hin : vp_in xno 600 := by rw [eg]; exact vp_in_nI hg (by omega)
  have hiq : vp_in (nI q) 40 := vp_in_nI hq (by omega)
  have his : vp_in (nI s) 653 := vp_in_nI hs (by omega)
  have es : (nI s).toNatClampNeg = s := nI_clamp (by omega)
  have k124 : wX_answerLeaf_124 post (nI 2) xst xow xin xpa xfi xfr xno xsi xan xkn xen xco xrm xac K N Z D Im W P vS pO pX pI fS fP fI fU fR fO fA fH fG fN aS qL qR qP := by
    unfold wX_answerLeaf_124
    rw [nI_pred]
    exact xr_give hp
  unfold wpX_answerLeaf
  dsimp only
  rw [eg', eP, nI_clamp (show q < 2 ^ 31 by omega), eO, eI]
  exact ⟨hin, hiq, nm_e ⟨hin, nm_e ⟨hin, hiq, nm_e (br_f (by decide) (br_f (by decide) (br_f (by decide) (br_f (by decide) (br_t rfl (k124))))))⟩⟩⟩
theorem xl_3 {xst xow xin xpa xfi xfr xno xsi xan xkn xen xco xrm xac : Int32} {K N Z D Im W P vS pO pX pI fS fP fI fU fR fO fA fH fG fN aS qL qR qP : Nat → Int32} {post : SX → Prop} {g q s : Nat} (eg : xno = nI g) (hg : g < 600) (eP : fP g = nI q) (hq : q < 40) (eO : pO q = nI 3) (eI : fI g = nI s) (hs : s < 653) (hp : post (xst, xow, xin, xpa, xfi, xfr, xno, 1, (nI 2), xkn, xen, xco, xrm, xac, K, N, Z, D, Im, W, P, vS, pO, pX, pI, fS, fP, fI, fU, fR, fO, fA, fH, fG, fN, aS, qL, qR, qP)) : wpX_answerLeaf post (xst, xow, xin, xpa, xfi, xfr, xno, xsi, xan, xkn, xen, xco, xrm, xac, K, N, Z, D, Im, W, P, vS, pO, pX, pI, fS, fP, fI, fU, fR, fO, fA, fH, fG, fN, aS, qL, qR, qP) := by
  have eg' : xno.toNatClampNeg = g := by rw [eg, nI_clamp (by omega)]
  have hin : vp_in xno 600 := by rw [eg]; exact vp_in_nI hg (by omega)
  have hiq : vp_in (nI q) 40 := vp_in_nI hq (by omega)
  have his : vp_in (nI s) 653 := vp_in_nI hs (by omega)
  have es : (nI s).toNatClampNeg = s := nI_clamp (by omega)
  have k124 : wX_answerLeaf_124 post (nI 3) xst xow xin xpa xfi xfr xno xsi xan xkn xen xco xrm xac K N Z D Im W P vS pO pX pI fS fP fI fU fR fO fA fH fG fN aS qL qR qP := by
    unfold wX_answerLeaf_124
    rw [nI_pred]
    exact xr_give hp
  unfold wpX_answerLeaf
  dsimp only
  rw [eg', eP, nI_clamp (show q < 2 ^ 31 by omega), eO, eI]
  exact ⟨hin, hiq, nm_e ⟨hin, nm_e ⟨hin, hiq, nm_e (br_f (by decide) (br_f (by decide) (br_f (by decide) (br_f (by decide) (br_f (by decide) (br_t rfl (k124)))))))⟩⟩⟩
theorem xl_4 {xst xow xin xpa xfi xfr xno xsi xan xkn xen xco xrm xac : Int32} {K N Z D Im W P vS pO pX pI fS fP fI fU fR fO fA fH fG fN aS qL qR qP : Nat → Int32} {post : SX → Prop} {g q s : Nat} (eg : xno = nI g) (hg : g < 600) (eP : fP g = nI q) (hq : q < 40) (eO : pO q = nI 4) (eI : fI g = nI s) (hs : s < 653) {rm : Nat} (er : xrm = nI rm) (hrm : rm < 600) (hp : post (xst, xow, xin, xpa, xfi, xfr, xno, 1, (nI (53 + rm)), xkn, xen, xco, (nI (rm + 1)), xac, (upd K (53 + rm) 3), (upd N (53 + rm) (pX q)), (upd Z (53 + rm) 0), (upd D (53 + rm) 0), (upd Im (53 + rm) 1), (upd W (53 + rm) 1), P, vS, pO, pX, pI, fS, fP, fI, fU, fR, fO, fA, fH, fG, fN, aS, qL, qR, qP)) : wpX_answerLeaf post (xst, xow, xin, xpa, xfi, xfr, xno, xsi, xan, xkn, xen, xco, xrm, xac, K, N, Z, D, Im, W, P, vS, pO, pX, pI, fS, fP, fI, fU, fR, fO, fA, fH, fG, fN, aS, qL, qR, qP) := by
  have eg' : xno.toNatClampNeg = g := by rw [eg, nI_clamp (by omega)]
  have hin : vp_in xno 600 := by rw [eg]; exact vp_in_nI hg (by omega)
  have hiq : vp_in (nI q) 40 := vp_in_nI hq (by omega)
  have his : vp_in (nI s) 653 := vp_in_nI hs (by omega)
  have es : (nI s).toNatClampNeg = s := nI_clamp (by omega)
  unfold wpX_answerLeaf
  dsimp only
  rw [eg', eP, nI_clamp (show q < 2 ^ 31 by omega), eO, eI]
  exact ⟨hin, hiq, nm_e ⟨hin, nm_e ⟨hin, hiq, nm_e (br_f (by decide) (br_f (by decide) (br_f (by decide) (br_f (by decide) (br_f (by decide) (br_f (by decide) (br_t rfl (xr_giveNumber er hrm hp))))))))⟩⟩⟩
theorem xl_field {xst xow xin xpa xfi xfr xno xsi xan xkn xen xco xrm xac : Int32} {K N Z D Im W P vS pO pX pI fS fP fI fU fR fO fA fH fG fN aS qL qR qP : Nat → Int32} {post : SX → Prop} {s κ m x : Nat} (hs : s < 653) (eK : K s = nI κ) (hκ : κ ≤ 5) (hx : x < 8) (hN : κ = 5 → m < 256 ∧ N s = nI m)
    (h0 : κ = 0 ∨ (κ = 5 ∧ m / 2 ^ x % 2 = 0) → post (xst, xow, xin, xpa, xfi, xfr, xno, 1, 0, xkn, xen, xco, xrm, xac, K, N, Z, D, Im, W, P, vS, pO, pX, pI, fS, fP, fI, fU, fR, fO, fA, fH, fG, fN, aS, qL, qR, qP)) (h1 : κ = 5 → m / 2 ^ x % 2 = 1 → post (xst, xow, xin, xpa, xfi, xfr, xno, 1, (P (s * 10 + vv_pc m x)), xkn, xen, xco, xrm, xac, K, N, Z, D, Im, W, P, vS, pO, pX, pI, fS, fP, fI, fU, fR, fO, fA, fH, fG, fN, aS, qL, qR, qP)) (h3 : κ ≠ 0 → κ ≠ 5 → post (xst, xow, xin, xpa, xfi, xfr, xno, 3, xan, xkn, xen, xco, xrm, xac, K, N, Z, D, Im, W, P, vS, pO, pX, pI, fS, fP, fI, fU, fR, fO, fA, fH, fG, fN, aS, qL, qR, qP)) : wpX_giveField post (xst, xow, xin, xpa, xfi, xfr, xno, xsi, xan, xkn, xen, xco, xrm, xac, K, N, Z, D, Im, W, P, vS, pO, pX, pI, fS, fP, fI, fU, fR, fO, fA, fH, fG, fN, aS, qL, qR, qP) (nI s) (nI x) := by
  have his : vp_in (nI s) 653 := vp_in_nI hs (by omega)
  have es : (nI s).toNatClampNeg = s := nI_clamp (by omega)
  unfold wpX_giveField
  dsimp only
  rw [es, eK]
  refine ⟨his, pk_eq κ 5 (fun e => ?_) (fun n5 => ⟨his, pk_eq κ 0 (fun e => xr_give (h0 (Or.inl e))) (fun n0 => h3 n0 n5)⟩)⟩
  obtain ⟨m1, m2⟩ := hN e
  have hpc : vv_pc m x ≤ 8 := by
    have := vv_sm_le (f := fun i => m / 2 ^ i % 2) (b := 1) x (fun i _ => by show m / 2 ^ i % 2 ≤ 1; omega)
    unfold vv_pc
    omega
  unfold wpX_fieldOf
  dsimp only
  rw [es, m2, kb_bit (by omega) (by omega)]
  refine ⟨his, pk_eq (m / 2 ^ x % 2) 0 (fun z => xr_give (h0 (Or.inr ⟨e, z⟩))) (fun z => ⟨his, xm_keysBelow m1 (by omega) ?_⟩)⟩
  rw [xi_10, nI_clamp (show s * 10 + vv_pc m x < 2 ^ 31 by omega)]
  exact ⟨vp_in_nI (by omega) (by omega), xr_give (h1 e (by omega))⟩
theorem xl_index {xst xow xin xpa xfi xfr xno xsi xan xkn xen xco xrm xac : Int32} {K N Z D Im W P vS pO pX pI fS fP fI fU fR fO fA fH fG fN aS qL qR qP : Nat → Int32} {post : SX → Prop} {s κ z : Nat} {x y : Int32} (hs : s < 653) (eK : K s = nI κ) (hκ : κ ≤ 5) (eZ : Z s = nI z) (hz : z ≤ 10) (hy : (0 ≤ x → y = x) ∧ (¬ 0 ≤ x → y = nI z + x))
    (h0 : κ = 0 ∨ (κ = 4 ∧ (y < 0 ∨ nI z ≤ y)) → post (xst, xow, xin, xpa, xfi, xfr, xno, 1, 0, xkn, xen, xco, xrm, xac, K, N, Z, D, Im, W, P, vS, pO, pX, pI, fS, fP, fI, fU, fR, fO, fA, fH, fG, fN, aS, qL, qR, qP)) (h1 : κ = 4 → ∀ j, j < z → y = nI j → post (xst, xow, xin, xpa, xfi, xfr, xno, 1, (P (s * 10 + j)), xkn, xen, xco, xrm, xac, K, N, Z, D, Im, W, P, vS, pO, pX, pI, fS, fP, fI, fU, fR, fO, fA, fH, fG, fN, aS, qL, qR, qP)) (h3 : κ ≠ 0 → κ ≠ 4 → post (xst, xow, xin, xpa, xfi, xfr, xno, 3, xan, xkn, xen, xco, xrm, xac, K, N, Z, D, Im, W, P, vS, pO, pX, pI, fS, fP, fI, fU, fR, fO, fA, fH, fG, fN, aS, qL, qR, qP)) : wpX_giveIndex post (xst, xow, xin, xpa, xfi, xfr, xno, xsi, xan, xkn, xen, xco, xrm, xac, K, N, Z, D, Im, W, P, vS, pO, pX, pI, fS, fP, fI, fU, fR, fO, fA, fH, fG, fN, aS, qL, qR, qP) (nI s) x := by
  have his : vp_in (nI s) 653 := vp_in_nI hs (by omega)
  have es : (nI s).toNatClampNeg = s := nI_clamp (by omega)
  have k26 : κ = 4 → wX_giveIndex_26 post (nI s) y xst xow xin xpa xfi xfr xno xsi xan xkn xen xco xrm xac K N Z D Im W P vS pO pX pI fS fP fI fU fR fO fA fH fG fN aS qL qR qP := by
    intro e4
    unfold wX_giveIndex_26
    rw [es, eZ]
    have k45 : (y < 0 ∨ nI z ≤ y) → wX_giveIndex_45 post (nI s) y xst xow xin xpa xfi xfr xno xsi xan xkn xen xco xrm xac K N Z D Im W P vS pO pX pI fS fP fI fU fR fO fA fH fG fN aS qL qR qP := by
      intro w
      unfold wX_giveIndex_45 wX_giveIndex_46
      refine br_t rfl ?_
      unfold wX_giveIndex_69
      exact xr_give (h0 (Or.inr ⟨e4, w⟩))
    refine br_c (fun w => k45 (Or.inl w)) (fun n0 => ⟨his, br_c (fun w => k45 (Or.inr w)) (fun nz => ?_)⟩)
    rcases pk_ix y (n := z) (by omega) with w | w | ⟨j, j1, j2⟩
    · exact absurd w n0
    · exact absurd w nz
    · have hh := h1 e4 j j1 j2
      rw [j2]
      unfold wX_giveIndex_46
      rw [xi_10, nI_clamp (show s * 10 + j < 2 ^ 31 by omega)]
      refine br_f (by decide) ⟨vp_in_nI (by omega) (by omega), ?_⟩
      unfold wX_giveIndex_69
      exact xr_give hh
  unfold wpX_giveIndex
  dsimp only
  rw [es, eK, eZ]
  refine ⟨his, pk_eq κ 4 (fun e => br_c (fun w => ?_) (fun w => ⟨his, ?_⟩)) (fun n4 => ⟨his, pk_eq κ 0 (fun e => xr_give (h0 (Or.inl e))) (fun n0 => h3 n0 n4)⟩)⟩
  · have := k26 e
    rw [hy.1 w] at this
    exact this
  · have := k26 e
    rw [hy.2 w] at this
    exact this
theorem xl_size {xst xow xin xpa xfi xfr xno xsi xan xkn xen xco xrm xac : Int32} {K N Z D Im W P vS pO pX pI fS fP fI fU fR fO fA fH fG fN aS qL qR qP : Nat → Int32} {post : SX → Prop} {s κ rm : Nat} {y : Int32} (hs : s < 653) (eK : K s = nI κ) (hκ : κ ≤ 5) (er : xrm = nI rm) (hrm : rm < 600) (hy : (κ = 3 → (0 ≤ N s → y = N s) ∧ (¬ 0 ≤ N s → y = - N s)) ∧ (κ ≠ 3 → y = Z s))
    (h3 : κ = 1 ∨ κ = 2 → post (xst, xow, xin, xpa, xfi, xfr, xno, 3, xan, xkn, xen, xco, xrm, xac, K, N, Z, D, Im, W, P, vS, pO, pX, pI, fS, fP, fI, fU, fR, fO, fA, fH, fG, fN, aS, qL, qR, qP)) (h1 : κ ≠ 1 → κ ≠ 2 → post (xst, xow, xin, xpa, xfi, xfr, xno, 1, (nI (53 + rm)), xkn, xen, xco, (nI (rm + 1)), xac, (upd K (53 + rm) 3), (upd N (53 + rm) y), (upd Z (53 + rm) 0), (upd D (53 + rm) 0), (upd Im (53 + rm) 1), (upd W (53 + rm) 1), P, vS, pO, pX, pI, fS, fP, fI, fU, fR, fO, fA, fH, fG, fN, aS, qL, qR, qP)) : wpX_giveSize post (xst, xow, xin, xpa, xfi, xfr, xno, xsi, xan, xkn, xen, xco, xrm, xac, K, N, Z, D, Im, W, P, vS, pO, pX, pI, fS, fP, fI, fU, fR, fO, fA, fH, fG, fN, aS, qL, qR, qP) (nI s) := by
  have his : vp_in (nI s) 653 := vp_in_nI hs (by omega)
  have es : (nI s).toNatClampNeg = s := nI_clamp (by omega)
  unfold wpX_giveSize
  dsimp only
  rw [es, eK]
  refine ⟨his, nm_e (pk_eq κ 1 (fun e => h3 (Or.inl e)) (fun n1 => pk_eq κ 2 (fun e => h3 (Or.inr e)) (fun n2 => pk_eq κ 3 (fun e => ⟨his, nm_e (br_c (fun w => ?_) (fun w => ?_))⟩) (fun n3 => ⟨his, ?_⟩))))⟩
  · have hh := h1 n1 n2
    rw [(hy.1 e).1 w] at hh
    unfold wX_giveSize_48
    exact xr_giveNumber er hrm hh
  · have hh := h1 n1 n2
    rw [(hy.1 e).2 w] at hh
    unfold wX_giveSize_48
    exact xr_giveNumber er hrm hh
  · have hh := h1 n1 n2
    rw [hy.2 n3] at hh
    exact xr_giveNumber er hrm hh
theorem xl_5 {xst xow xin xpa xfi xfr xno xsi xan xkn xen xco xrm xac : Int32} {K N Z D Im W P vS pO pX pI fS fP fI fU fR fO fA fH fG fN aS qL qR qP : Nat → Int32} {post : SX → Prop} {g q s : Nat} (eg : xno = nI g) (hg : g < 600) (eP : fP g = nI q) (hq : q < 40) (eO : pO q = nI 5) (eI : fI g = nI s) (hs : s < 653) {κ m x : Nat} (eX : pX q = nI x) (eK : K s = nI κ) (hκ : κ ≤ 5) (hx : x < 8) (hN : κ = 5 → m < 256 ∧ N s = nI m) (h0 : κ = 0 ∨ (κ = 5 ∧ m / 2 ^ x % 2 = 0) → post (xst, xow, xin, xpa, xfi, xfr, xno, 1, 0, xkn, xen, xco, xrm, xac, K, N, Z, D, Im, W, P, vS, pO, pX, pI, fS, fP, fI, fU, fR, fO, fA, fH, fG, fN, aS, qL, qR, qP)) (h1 : κ = 5 → m / 2 ^ x % 2 = 1 → post (xst, xow, xin, xpa, xfi, xfr, xno, 1, (P (s * 10 + vv_pc m x)), xkn, xen, xco, xrm, xac, K, N, Z, D, Im, W, P, vS, pO, pX, pI, fS, fP, fI, fU, fR, fO, fA, fH, fG, fN, aS, qL, qR, qP)) (h3 : κ ≠ 0 → κ ≠ 5 → post (xst, xow, xin, xpa, xfi, xfr, xno, 3, xan, xkn, xen, xco, xrm, xac, K, N, Z, D, Im, W, P, vS, pO, pX, pI, fS, fP, fI, fU, fR, fO, fA, fH, fG, fN, aS, qL, qR, qP)) : wpX_answerLeaf post (xst, xow, xin, xpa, xfi, xfr, xno, xsi, xan, xkn, xen, xco, xrm, xac, K, N, Z, D, Im, W, P, vS, pO, pX, pI, fS, fP, fI, fU, fR, fO, fA, fH, fG, fN, aS, qL, qR, qP) := by
  have eg' : xno.toNatClampNeg = g := by rw [eg, nI_clamp (by omega)]
  have hin : vp_in xno 600 := by rw [eg]; exact vp_in_nI hg (by omega)
  have hiq : vp_in (nI q) 40 := vp_in_nI hq (by omega)
  have his : vp_in (nI s) 653 := vp_in_nI hs (by omega)
  have es : (nI s).toNatClampNeg = s := nI_clamp (by omega)
  unfold wpX_answerLeaf
  dsimp only
  rw [eg', eP, nI_clamp (show q < 2 ^ 31 by omega), eO, eI]
  exact ⟨hin, hiq, nm_e ⟨hin, nm_e ⟨hin, hiq, nm_e (br_f (by decide) (br_f (by decide) (br_f (by decide) (br_f (by decide) (br_f (by decide) (br_f (by decide) (br_f (by decide) (br_t rfl (by rw [eX]; exact xl_field (m := m) hs eK hκ hx hN h0 h1 h3)))))))))⟩⟩⟩
theorem xl_6 {xst xow xin xpa xfi xfr xno xsi xan xkn xen xco xrm xac : Int32} {K N Z D Im W P vS pO pX pI fS fP fI fU fR fO fA fH fG fN aS qL qR qP : Nat → Int32} {post : SX → Prop} {g q s : Nat} (eg : xno = nI g) (hg : g < 600) (eP : fP g = nI q) (hq : q < 40) (eO : pO q = nI 6) (eI : fI g = nI s) (hs : s < 653) {κ z : Nat} {y : Int32} (eK : K s = nI κ) (hκ : κ ≤ 5) (eZ : Z s = nI z) (hz : z ≤ 10) (hy : (0 ≤ pX q → y = pX q) ∧ (¬ 0 ≤ pX q → y = nI z + pX q)) (h0 : κ = 0 ∨ (κ = 4 ∧ (y < 0 ∨ nI z ≤ y)) → post (xst, xow, xin, xpa, xfi, xfr, xno, 1, 0, xkn, xen, xco, xrm, xac, K, N, Z, D, Im, W, P, vS, pO, pX, pI, fS, fP, fI, fU, fR, fO, fA, fH, fG, fN, aS, qL, qR, qP)) (h1 : κ = 4 → ∀ j, j < z → y = nI j → post (xst, xow, xin, xpa, xfi, xfr, xno, 1, (P (s * 10 + j)), xkn, xen, xco, xrm, xac, K, N, Z, D, Im, W, P, vS, pO, pX, pI, fS, fP, fI, fU, fR, fO, fA, fH, fG, fN, aS, qL, qR, qP)) (h3 : κ ≠ 0 → κ ≠ 4 → post (xst, xow, xin, xpa, xfi, xfr, xno, 3, xan, xkn, xen, xco, xrm, xac, K, N, Z, D, Im, W, P, vS, pO, pX, pI, fS, fP, fI, fU, fR, fO, fA, fH, fG, fN, aS, qL, qR, qP)) : wpX_answerLeaf post (xst, xow, xin, xpa, xfi, xfr, xno, xsi, xan, xkn, xen, xco, xrm, xac, K, N, Z, D, Im, W, P, vS, pO, pX, pI, fS, fP, fI, fU, fR, fO, fA, fH, fG, fN, aS, qL, qR, qP) := by
  have eg' : xno.toNatClampNeg = g := by rw [eg, nI_clamp (by omega)]
  have hin : vp_in xno 600 := by rw [eg]; exact vp_in_nI hg (by omega)
  have hiq : vp_in (nI q) 40 := vp_in_nI hq (by omega)
  have his : vp_in (nI s) 653 := vp_in_nI hs (by omega)
  have es : (nI s).toNatClampNeg = s := nI_clamp (by omega)
  unfold wpX_answerLeaf
  dsimp only
  rw [eg', eP, nI_clamp (show q < 2 ^ 31 by omega), eO, eI]
  exact ⟨hin, hiq, nm_e ⟨hin, nm_e ⟨hin, hiq, nm_e (br_f (by decide) (br_f (by decide) (br_f (by decide) (br_f (by decide) (br_f (by decide) (br_f (by decide) (br_f (by decide) (br_f (by decide) (br_t rfl (xl_index hs eK hκ eZ hz hy h0 h1 h3))))))))))⟩⟩⟩
theorem xl_8 {xst xow xin xpa xfi xfr xno xsi xan xkn xen xco xrm xac : Int32} {K N Z D Im W P vS pO pX pI fS fP fI fU fR fO fA fH fG fN aS qL qR qP : Nat → Int32} {post : SX → Prop} {g q s : Nat} (eg : xno = nI g) (hg : g < 600) (eP : fP g = nI q) (hq : q < 40) (eO : pO q = nI 8) (eI : fI g = nI s) (hs : s < 653) (hp : post (xst, xow, xin, xpa, xfi, xfr, xno, 2, xan, xkn, xen, xco, xrm, xac, K, N, Z, D, Im, W, P, vS, pO, pX, pI, fS, fP, fI, fU, fR, fO, fA, fH, fG, fN, aS, qL, qR, qP)) : wpX_answerLeaf post (xst, xow, xin, xpa, xfi, xfr, xno, xsi, xan, xkn, xen, xco, xrm, xac, K, N, Z, D, Im, W, P, vS, pO, pX, pI, fS, fP, fI, fU, fR, fO, fA, fH, fG, fN, aS, qL, qR, qP) := by
  have eg' : xno.toNatClampNeg = g := by rw [eg, nI_clamp (by omega)]
  have hin : vp_in xno 600 := by rw [eg]; exact vp_in_nI hg (by omega)
  have hiq : vp_in (nI q) 40 := vp_in_nI hq (by omega)
  have his : vp_in (nI s) 653 := vp_in_nI hs (by omega)
  have es : (nI s).toNatClampNeg = s := nI_clamp (by omega)
  unfold wpX_answerLeaf
  dsimp only
  rw [eg', eP, nI_clamp (show q < 2 ^ 31 by omega), eO, eI]
  exact ⟨hin, hiq, nm_e ⟨hin, nm_e ⟨hin, hiq, nm_e (br_f (by decide) (br_f (by decide) (br_f (by decide) (br_f (by decide) (br_f (by decide) (br_f (by decide) (br_f (by decide) (br_f (by decide) (br_f (by decide) (br_f (by decide) (br_t rfl (hp))))))))))))⟩⟩⟩
theorem xl_9 {xst xow xin xpa xfi xfr xno xsi xan xkn xen xco xrm xac : Int32} {K N Z D Im W P vS pO pX pI fS fP fI fU fR fO fA fH fG fN aS qL qR qP : Nat → Int32} {post : SX → Prop} {g q s : Nat} (eg : xno = nI g) (hg : g < 600) (eP : fP g = nI q) (hq : q < 40) (eO : pO q = nI 9) (eI : fI g = nI s) (hs : s < 653) (hp : post (xst, xow, xin, xpa, xfi, xfr, xno, 3, xan, xkn, xen, xco, xrm, xac, K, N, Z, D, Im, W, P, vS, pO, pX, pI, fS, fP, fI, fU, fR, fO, fA, fH, fG, fN, aS, qL, qR, qP)) : wpX_answerLeaf post (xst, xow, xin, xpa, xfi, xfr, xno, xsi, xan, xkn, xen, xco, xrm, xac, K, N, Z, D, Im, W, P, vS, pO, pX, pI, fS, fP, fI, fU, fR, fO, fA, fH, fG, fN, aS, qL, qR, qP) := by
  have eg' : xno.toNatClampNeg = g := by rw [eg, nI_clamp (by omega)]
  have hin : vp_in xno 600 := by rw [eg]; exact vp_in_nI hg (by omega)
  have hiq : vp_in (nI q) 40 := vp_in_nI hq (by omega)
  have his : vp_in (nI s) 653 := vp_in_nI hs (by omega)
  have es : (nI s).toNatClampNeg = s := nI_clamp (by omega)
  unfold wpX_answerLeaf
  dsimp only
  rw [eg', eP, nI_clamp (show q < 2 ^ 31 by omega), eO, eI]
  exact ⟨hin, hiq, nm_e ⟨hin, nm_e ⟨hin, hiq, nm_e (br_f (by decide) (br_f (by decide) (br_f (by decide) (br_f (by decide) (br_f (by decide) (br_f (by decide) (br_f (by decide) (br_f (by decide) (br_f (by decide) (br_f (by decide) (br_f (by decide) (br_t rfl (hp)))))))))))))⟩⟩⟩
theorem xl_10 {xst xow xin xpa xfi xfr xno xsi xan xkn xen xco xrm xac : Int32} {K N Z D Im W P vS pO pX pI fS fP fI fU fR fO fA fH fG fN aS qL qR qP : Nat → Int32} {post : SX → Prop} {g q s : Nat} (eg : xno = nI g) (hg : g < 600) (eP : fP g = nI q) (hq : q < 40) (eO : pO q = nI 10) (eI : fI g = nI s) (hs : s < 653) {κ rm : Nat} {y : Int32} (eK : K s = nI κ) (hκ : κ ≤ 5) (er : xrm = nI rm) (hrm : rm < 600) (hy : (κ = 3 → (0 ≤ N s → y = N s) ∧ (¬ 0 ≤ N s → y = - N s)) ∧ (κ ≠ 3 → y = Z s)) (h3 : κ = 1 ∨ κ = 2 → post (xst, xow, xin, xpa, xfi, xfr, xno, 3, xan, xkn, xen, xco, xrm, xac, K, N, Z, D, Im, W, P, vS, pO, pX, pI, fS, fP, fI, fU, fR, fO, fA, fH, fG, fN, aS, qL, qR, qP)) (h1 : κ ≠ 1 → κ ≠ 2 → post (xst, xow, xin, xpa, xfi, xfr, xno, 1, (nI (53 + rm)), xkn, xen, xco, (nI (rm + 1)), xac, (upd K (53 + rm) 3), (upd N (53 + rm) y), (upd Z (53 + rm) 0), (upd D (53 + rm) 0), (upd Im (53 + rm) 1), (upd W (53 + rm) 1), P, vS, pO, pX, pI, fS, fP, fI, fU, fR, fO, fA, fH, fG, fN, aS, qL, qR, qP)) : wpX_answerLeaf post (xst, xow, xin, xpa, xfi, xfr, xno, xsi, xan, xkn, xen, xco, xrm, xac, K, N, Z, D, Im, W, P, vS, pO, pX, pI, fS, fP, fI, fU, fR, fO, fA, fH, fG, fN, aS, qL, qR, qP) := by
  have eg' : xno.toNatClampNeg = g := by rw [eg, nI_clamp (by omega)]
  have hin : vp_in xno 600 := by rw [eg]; exact vp_in_nI hg (by omega)
  have hiq : vp_in (nI q) 40 := vp_in_nI hq (by omega)
  have his : vp_in (nI s) 653 := vp_in_nI hs (by omega)
  have es : (nI s).toNatClampNeg = s := nI_clamp (by omega)
  unfold wpX_answerLeaf
  dsimp only
  rw [eg', eP, nI_clamp (show q < 2 ^ 31 by omega), eO, eI]
  exact ⟨hin, hiq, nm_e ⟨hin, nm_e ⟨hin, hiq, nm_e (br_f (by decide) (br_f (by decide) (br_f (by decide) (br_f (by decide) (br_f (by decide) (br_f (by decide) (br_f (by decide) (br_f (by decide) (br_f (by decide) (br_f (by decide) (br_f (by decide) (br_f (by decide) (br_t rfl (xl_size hs eK hκ er hrm hy h3 h1))))))))))))))⟩⟩⟩
theorem xl_12 {xst xow xin xpa xfi xfr xno xsi xan xkn xen xco xrm xac : Int32} {K N Z D Im W P vS pO pX pI fS fP fI fU fR fO fA fH fG fN aS qL qR qP : Nat → Int32} {post : SX → Prop} {g q s : Nat} (eg : xno = nI g) (hg : g < 600) (eP : fP g = nI q) (hq : q < 40) (eO : pO q = nI 12) (eI : fI g = nI s) (hs : s < 653) {κ : Nat} (eK : K s = nI κ) (hκ : κ ≤ 5) (hp : post (xst, xow, xin, xpa, xfi, xfr, xno, 1, (nI (3 + κ)), xkn, xen, xco, xrm, xac, K, N, Z, D, Im, W, P, vS, pO, pX, pI, fS, fP, fI, fU, fR, fO, fA, fH, fG, fN, aS, qL, qR, qP)) : wpX_answerLeaf post (xst, xow, xin, xpa, xfi, xfr, xno, xsi, xan, xkn, xen, xco, xrm, xac, K, N, Z, D, Im, W, P, vS, pO, pX, pI, fS, fP, fI, fU, fR, fO, fA, fH, fG, fN, aS, qL, qR, qP) := by
  have eg' : xno.toNatClampNeg = g := by rw [eg, nI_clamp (by omega)]
  have hin : vp_in xno 600 := by rw [eg]; exact vp_in_nI hg (by omega)
  have hiq : vp_in (nI q) 40 := vp_in_nI hq (by omega)
  have his : vp_in (nI s) 653 := vp_in_nI hs (by omega)
  have es : (nI s).toNatClampNeg = s := nI_clamp (by omega)
  unfold wpX_answerLeaf
  dsimp only
  rw [eg', eP, nI_clamp (show q < 2 ^ 31 by omega), eO, eI]
  exact ⟨hin, hiq, nm_e ⟨hin, nm_e ⟨hin, hiq, nm_e (br_f (by decide) (br_f (by decide) (br_f (by decide) (br_f (by decide) (br_f (by decide) (br_f (by decide) (br_f (by decide) (br_f (by decide) (br_f (by decide) (br_f (by decide) (br_f (by decide) (br_f (by decide) (br_f (by decide) (br_f (by decide) (br_t rfl (⟨his, by rw [es, eK, show (3 : Int32) + nI κ = nI (3 + κ) from nI_add 3 κ]; exact xr_give hp⟩))))))))))))))))⟩⟩⟩
theorem xl_13 {xst xow xin xpa xfi xfr xno xsi xan xkn xen xco xrm xac : Int32} {K N Z D Im W P vS pO pX pI fS fP fI fU fR fO fA fH fG fN aS qL qR qP : Nat → Int32} {post : SX → Prop} {g q s : Nat} (eg : xno = nI g) (hg : g < 600) (eP : fP g = nI q) (hq : q < 40) (eO : pO q = nI 13) (eI : fI g = nI s) (hs : s < 653) {x : Nat} (eX : pX q = nI x) (hx : x < 3) (hp : post (xst, xow, xin, xpa, xfi, xfr, xno, 1, (fN (g * 3 + x)), xkn, xen, xco, xrm, xac, K, N, Z, D, Im, W, P, vS, pO, pX, pI, fS, fP, fI, fU, fR, fO, fA, fH, fG, fN, aS, qL, qR, qP)) : wpX_answerLeaf post (xst, xow, xin, xpa, xfi, xfr, xno, xsi, xan, xkn, xen, xco, xrm, xac, K, N, Z, D, Im, W, P, vS, pO, pX, pI, fS, fP, fI, fU, fR, fO, fA, fH, fG, fN, aS, qL, qR, qP) := by
  have eg' : xno.toNatClampNeg = g := by rw [eg, nI_clamp (by omega)]
  have hin : vp_in xno 600 := by rw [eg]; exact vp_in_nI hg (by omega)
  have hiq : vp_in (nI q) 40 := vp_in_nI hq (by omega)
  have his : vp_in (nI s) 653 := vp_in_nI hs (by omega)
  have es : (nI s).toNatClampNeg = s := nI_clamp (by omega)
  unfold wpX_answerLeaf
  dsimp only
  rw [eg', eP, nI_clamp (show q < 2 ^ 31 by omega), eO, eI]
  exact ⟨hin, hiq, nm_e ⟨hin, nm_e ⟨hin, hiq, nm_e (br_f (by decide) (br_f (by decide) (br_f (by decide) (br_f (by decide) (br_f (by decide) (br_f (by decide) (br_f (by decide) (br_f (by decide) (br_f (by decide) (br_f (by decide) (br_f (by decide) (br_f (by decide) (br_f (by decide) (br_f (by decide) (br_f (by decide) (br_t rfl (by rw [eX, eg, xi_3, nI_clamp (show g * 3 + x < 2 ^ 31 by omega)]; exact ⟨vp_in_nI (by omega) (by omega), xr_give (eg ▸ hp)⟩)))))))))))))))))⟩⟩⟩
theorem xl_14 {xst xow xin xpa xfi xfr xno xsi xan xkn xen xco xrm xac : Int32} {K N Z D Im W P vS pO pX pI fS fP fI fU fR fO fA fH fG fN aS qL qR qP : Nat → Int32} {post : SX → Prop} {g q s : Nat} (eg : xno = nI g) (hg : g < 600) (eP : fP g = nI q) (hq : q < 40) (eO : pO q = nI 14) (eI : fI g = nI s) (hs : s < 653) {κ : Nat} (eK : K s = nI κ) (hκ : κ ≤ 5) (h0 : 2 ≤ κ → post (xst, xow, xin, xpa, xfi, xfr, xno, 1, 1, xkn, xen, xco, xrm, xac, K, N, Z, D, Im, W, P, vS, pO, pX, pI, fS, fP, fI, fU, fR, fO, fA, fH, fG, fN, aS, qL, qR, qP)) (h1 : κ < 2 → post (xst, xow, xin, xpa, xfi, xfr, xno, 1, 2, xkn, xen, xco, xrm, xac, K, N, Z, D, Im, W, P, vS, pO, pX, pI, fS, fP, fI, fU, fR, fO, fA, fH, fG, fN, aS, qL, qR, qP)) : wpX_answerLeaf post (xst, xow, xin, xpa, xfi, xfr, xno, xsi, xan, xkn, xen, xco, xrm, xac, K, N, Z, D, Im, W, P, vS, pO, pX, pI, fS, fP, fI, fU, fR, fO, fA, fH, fG, fN, aS, qL, qR, qP) := by
  have eg' : xno.toNatClampNeg = g := by rw [eg, nI_clamp (by omega)]
  have hin : vp_in xno 600 := by rw [eg]; exact vp_in_nI hg (by omega)
  have hiq : vp_in (nI q) 40 := vp_in_nI hq (by omega)
  have his : vp_in (nI s) 653 := vp_in_nI hs (by omega)
  have es : (nI s).toNatClampNeg = s := nI_clamp (by omega)
  unfold wpX_answerLeaf
  dsimp only
  rw [eg', eP, nI_clamp (show q < 2 ^ 31 by omega), eO, eI]
  exact ⟨hin, hiq, nm_e ⟨hin, nm_e ⟨hin, hiq, nm_e (br_f (by decide) (br_f (by decide) (br_f (by decide) (br_f (by decide) (br_f (by decide) (br_f (by decide) (br_f (by decide) (br_f (by decide) (br_f (by decide) (br_f (by decide) (br_f (by decide) (br_f (by decide) (br_f (by decide) (br_f (by decide) (br_f (by decide) (br_f (by decide) (br_t rfl (xr_isEmpty hs eK hκ (fun w => xr_giveTruth (fun _ => h0 w) (fun z => absurd rfl z)) (fun w => xr_giveTruth (fun z => absurd z (by decide)) (fun _ => h1 w))))))))))))))))))))⟩⟩⟩
end
section
/-! ===== keys ===== -/
def ky_k (m i : Nat) : Nat → Nat
  | 0 => 0
  | k + 1 => if m / 2 ^ k % 2 = 1 ∧ vv_pc m k = i then k else ky_k m i k
theorem ky_t : ∀ m, m < 256 → ∀ i, i < 8 → i < vv_pc m 8 → (ky_k m i 8 < 8 ∧ m / 2 ^ ky_k m i 8 % 2 = 1 ∧ vv_pc m (ky_k m i 8) = i) := by decide +kernel
theorem vv_pc_s (m k : Nat) : vv_pc m (k + 1) = vv_pc m k + m / 2 ^ k % 2 := rfl
theorem vv_pc_u {m : Nat} : ∀ {a b : Nat}, a ≤ b → vv_pc m a ≤ vv_pc m b := by
  intro a b
  induction b with
  | zero => intro h; have : a = 0 := by omega
            subst this; exact Nat.le_refl _
  | succ b ih =>
    intro h
    by_cases e : a = b + 1
    · subst e; exact Nat.le_refl _
    · have := ih (by omega)
      rw [vv_pc_s]
      omega
theorem vv_pc_8' {m : Nat} : vv_pc m 8 ≤ 8 := by
  have := vv_sm_le (f := fun i => m / 2 ^ i % 2) (b := 1) 8 (fun i _ => by show m / 2 ^ i % 2 ≤ 1; omega)
  unfold vv_pc
  omega
theorem xm_keyAt {post : Int32 → Prop} {m i k : Nat} (hm : m < 256) (hk : k < 8) (hb : m / 2 ^ k % 2 = 1) (hi : vv_pc m k = i) (hp : post (nI k)) : wpX_keyAt post (nI m) (nI i) := by
  have h8 := vv_pc_8' (m := m)
  have key : ∀ r j, j + r = k → wX_keyAt_4 post (nI m) (nI i) (r + 1) (nI (vv_pc m j)) (nI j) := by
    intro r
    induction r with
    | zero =>
      intro j hj
      have hj' : j = k := by omega
      subst hj'
      unfold wX_keyAt_4
      rw [kb_bit (by omega) (by omega), hb, hi]
      exact br_f (nI_ge (b := 8) hk (by omega)) (br_t rfl (br_t rfl hp))
    | succ r ih =>
      intro j hj
      have hle := vv_pc_u (m := m) (a := j + 1) (b := k) (by omega)
      have hlt := vv_pc_u (m := m) (a := k) (b := 8) (by omega)
      have hs := vv_pc_s m j
      have nx := ih (j + 1) (by omega)
      unfold wX_keyAt_4
      rw [kb_bit (by omega) (by omega)]
      refine br_f (nI_ge (b := 8) (by omega) (by omega)) (pk_eq (m / 2 ^ j % 2) 1 (fun e => ?_) (fun e => ?_))
      · refine br_f (fun z => absurd ((nI_eq (by omega) (by omega)).mp z) (by omega)) (nm_r (nI_1 _) (nm_r (nI_1 j) ?_))
        rw [hs, e] at nx
        exact nx
      · refine nm_r (nI_1 j) ?_
        rw [hs, show m / 2 ^ j % 2 = 0 by omega, Nat.add_zero] at nx
        exact nx
  unfold wpX_keyAt
  exact ⟨_, key k 0 (by omega)⟩
theorem xl_keys {xst xow xin xpa xfi xfr xno xsi xan xkn xen xco xrm xac : Int32} {K N Z D Im W P vS pO pX pI fS fP fI fU fR fO fA fH fG fN aS qL qR qP : Nat → Int32} {V : Nat → Prop} {post : SX → Prop} {s κ z rm : Nat} {ke : Nat → Nat} {c e q w : Nat → Nat} (hs : s < 653) (eK : K s = nI κ) (hκ : κ ≤ 5) (er : xrm = nI rm) (hrm : rm < 600) (eZ : Z s = nI z) (hz : z ≤ 10) (hne' : s ≠ 53 + rm) (hk4 : κ = 4 → ∀ i, i < z → ke i = i)
    (hk5 : κ = 5 → ∃ m, m < 256 ∧ N s = nI m ∧ z = vv_pc m 8 ∧ ∀ i, i < z → ke i < 8 ∧ m / 2 ^ ke i % 2 = 1 ∧ vv_pc m (ke i) = i) (hc : ns_ch V D Im W (53 + rm) z (fun i => nI (3 + ke i)) c e q w) (hne : ∀ t, V t → t ≠ 53 + rm)
    (h3 : κ ≤ 3 → post (xst, xow, xin, xpa, xfi, xfr, xno, 3, xan, xkn, xen, xco, xrm, xac, K, N, Z, D, Im, W, P, vS, pO, pX, pI, fS, fP, fI, fU, fR, fO, fA, fH, fG, fN, aS, qL, qR, qP))
    (hp : 3 < κ → ∀ K' N' Z' D' Im' W' P' : Nat → Int32, vv_ns (53 + rm) 4 z 0 0 (fun i => nI (3 + ke i)) e q w K N Z D Im W P K' N' Z' D' Im' W' P' → post (xst, xow, xin, xpa, xfi, xfr, xno, 1, (nI (53 + rm)), xkn, xen, xco, (nI (rm + 1)), xac, K', N', Z', D', Im', W', P', vS, pO, pX, pI, fS, fP, fI, fU, fR, fO, fA, fH, fG, fN, aS, qL, qR, qP)) : wpX_giveKeys post (xst, xow, xin, xpa, xfi, xfr, xno, xsi, xan, xkn, xen, xco, xrm, xac, K, N, Z, D, Im, W, P, vS, pO, pX, pI, fS, fP, fI, fU, fR, fO, fA, fH, fG, fN, aS, qL, qR, qP) (nI s) := by
  have his : vp_in (nI s) 653 := vp_in_nI hs (by omega)
  have es : (nI s).toNatClampNeg = s := nI_clamp (by omega)
  unfold wpX_giveKeys
  dsimp only
  rw [es, eK]
  refine ⟨his, pk_lt 3 κ (fun k3 => ?_) (fun k3 => h3 k3)⟩
  refine xr_runSlot er ⟨his, ?_⟩
  dsimp only
  rw [eZ]
  refine nm_e (xm_setNested (by omega) ?_)
  have k38 : ∀ r i (Z' P' : Nat → Int32), i + r = z → (∀ t, t ≠ 53 + rm → Z' t = Z t ∧ ∀ j, j < 10 → P' (t * 10 + j) = P (t * 10 + j)) → Z' (53 + rm) = nI i → (∀ j, j < i → P' ((53 + rm) * 10 + j) = nI (3 + ke j)) →
      wX_giveKeys_38 post (nI s) (nI (53 + rm)) (nI z) (r + 1) (nI i) xst xow xin xpa xfi xfr xno xsi xan xkn xen xco (nI (rm + 1)) xac (upd K (53 + rm) 4) (upd N (53 + rm) 0) Z' D Im W P' vS pO pX pI fS fP fI fU fR fO fA fH fG fN aS qL qR qP := by
    intro r
    induction r with
    | zero =>
      intro i Z' P' hi ho eZ' eP'
      have hi' : i = z := by omega
      subst hi'
      unfold wX_giveKeys_38
      refine br_t (nI_le (Nat.le_refl _) (by omega)) ?_
      refine xm_ns (V := V) (c := c) (K0 := K) (N0 := N) (Z0 := Z) (P0 := P) (by omega) hz (Or.inl ⟨rfl, rfl⟩) hc hne (fun t ht => ⟨pk_un ht, pk_un ht, (ho t ht).1, (ho t ht).2⟩) pk_us pk_us eZ' eP' (fun D' Im' W' hns => ?_)
      exact xr_give (hp k3 _ _ _ _ _ _ _ hns)
    | succ r ih =>
      intro i Z' P' hi ho eZ' eP'
      have k70 : ∀ x : Int32, x = nI (ke i) → wX_giveKeys_70 post (wX_giveKeys_38 post (nI s) (nI (53 + rm)) (nI z) (r + 1)) (nI s) (nI (53 + rm)) (nI z) (nI i) x xst xow xin xpa xfi xfr xno xsi xan xkn xen xco (nI (rm + 1)) xac (upd K (53 + rm) 4) (upd N (53 + rm) 0) Z' D Im W P' vS pO pX pI fS fP fI fU fR fO fA fH fG fN aS qL qR qP := by
        intro x hx
        subst hx
        unfold wX_giveKeys_70
        rw [show (3 : Int32) + nI (ke i) = nI (3 + ke i) from nI_add 3 (ke i)]
        refine xm_addTo (z := i) (by omega) eZ' (by omega) (nm_r (nI_1 i) ?_)
        refine ih (i + 1) _ _ (by omega) (fun t ht => ⟨(pk_un ht).trans (ho t ht).1, fun j hj => (pk_un (vv_pl ht hj (by omega))).trans ((ho t ht).2 j hj)⟩) pk_us (fun j hj => ?_)
        by_cases ej : j = i
        · subst ej; rw [pk_us]
        · rw [pk_un (by omega)]; exact eP' j (by omega)
      unfold wX_giveKeys_38
      rw [es, pk_un hne', eK, pk_un hne']
      refine br_f (nI_ge (by omega) (by omega)) ⟨his, pk_eq κ 4 (fun e4 => k70 _ (by rw [hk4 e4 i (by omega)])) (fun n4 => ⟨his, ?_⟩)⟩
      obtain ⟨m, m1, m2, m3, m4⟩ := hk5 (by omega)
      obtain ⟨a1, a2, a3⟩ := m4 i (by omega)
      rw [m2]
      exact xm_keyAt m1 a1 a2 a3 (k70 _ rfl)
  exact ⟨_, k38 z 0 _ _ (by omega) (fun t ht => ⟨pk_un ht, fun _ _ => rfl⟩) pk_us (fun j hj => absurd hj (by omega))⟩
end
section
/-! ===== X: values that are made ===== -/
theorem xk_joined {xst xow xin xpa xfi xfr xno xsi xan xkn xen xco xrm xac : Int32} {K N Z D Im W P vS pO pX pI fS fP fI fU fR fO fA fH fG fN aS qL qR qP : Nat → Int32} {V : Nat → Prop} {post : SX → Prop} {s t za zb rm : Nat} {c e q w : Nat → Nat} (hs : s < 653) (ht : t < 653) (er : xrm = nI rm) (hrm : rm < 600) (eZs : Z s = nI za) (eZt : Z t = nI zb) (hza : za ≤ 10) (hzb : zb ≤ 10) (ns : s ≠ 53 + rm) (nt : t ≠ 53 + rm)
    (hc : za + zb ≤ 10 → ns_ch V D Im W (53 + rm) (za + zb) (fun i => if i < za then P (s * 10 + i) else P (t * 10 + (i - za))) c e q w) (hne : ∀ u, V u → u ≠ 53 + rm)
    (h3 : 10 < za + zb → post (xst, xow, xin, xpa, xfi, xfr, xno, 3, xan, xkn, xen, xco, xrm, xac, K, N, Z, D, Im, W, P, vS, pO, pX, pI, fS, fP, fI, fU, fR, fO, fA, fH, fG, fN, aS, qL, qR, qP))
    (hp : za + zb ≤ 10 → ∀ K' N' Z' D' Im' W' P' : Nat → Int32, vv_ns (53 + rm) 4 (za + zb) 0 0 (fun i => if i < za then P (s * 10 + i) else P (t * 10 + (i - za))) e q w K N Z D Im W P K' N' Z' D' Im' W' P' → post (xst, xow, xin, xpa, xfi, xfr, xno, 1, (nI (53 + rm)), xkn, xen, xco, (nI (rm + 1)), xac, K', N', Z', D', Im', W', P', vS, pO, pX, pI, fS, fP, fI, fU, fR, fO, fA, fH, fG, fN, aS, qL, qR, qP)) : wpX_makeJoined post (xst, xow, xin, xpa, xfi, xfr, xno, xsi, xan, xkn, xen, xco, xrm, xac, K, N, Z, D, Im, W, P, vS, pO, pX, pI, fS, fP, fI, fU, fR, fO, fA, fH, fG, fN, aS, qL, qR, qP) (nI s) (nI t) := by
  have his : vp_in (nI s) 653 := vp_in_nI hs (by omega)
  have hit : vp_in (nI t) 653 := vp_in_nI ht (by omega)
  have es : (nI s).toNatClampNeg = s := nI_clamp (by omega)
  have et : (nI t).toNatClampNeg = t := nI_clamp (by omega)
  unfold wpX_makeJoined
  dsimp only
  rw [es, et, eZs, eZt]
  refine ⟨his, nm_e ⟨hit, nm_e ?_⟩⟩
  rw [nI_add]
  refine pk_le (za + zb) 10 (fun hle => ?_) (fun hgt => h3 hgt)
  refine xr_runSlot er (xm_setNested (by omega) ?_)
  have k80 : ∀ r i (Z' P' : Nat → Int32), i + r = zb → (∀ u, u ≠ 53 + rm → Z' u = Z u ∧ ∀ j, j < 10 → P' (u * 10 + j) = P (u * 10 + j)) → Z' (53 + rm) = nI (za + i) → (∀ j, j < za + i → P' ((53 + rm) * 10 + j) = if j < za then P (s * 10 + j) else P (t * 10 + (j - za))) →
      wX_makeJoined_80 post (nI t) (nI zb) (nI (53 + rm)) (r + 1) (nI i) xst xow xin xpa xfi xfr xno xsi xan xkn xen xco (nI (rm + 1)) xac (upd K (53 + rm) 4) (upd N (53 + rm) 0) Z' D Im W P' vS pO pX pI fS fP fI fU fR fO fA fH fG fN aS qL qR qP := by
    intro r
    induction r with
    | zero =>
      intro i Z' P' hi ho eZ' eP'
      have hi' : i = zb := by omega
      subst hi'
      unfold wX_makeJoined_80
      refine br_t (nI_le (Nat.le_refl _) (by omega)) ?_
      refine xm_ns (V := V) (c := c) (K0 := K) (N0 := N) (Z0 := Z) (P0 := P) (by omega) hle (Or.inl ⟨rfl, rfl⟩) (hc hle) hne (fun u hu => ⟨pk_un hu, pk_un hu, (ho u hu).1, (ho u hu).2⟩) pk_us pk_us eZ' eP' (fun D' Im' W' hns => ?_)
      exact xr_give (hp hle _ _ _ _ _ _ _ hns)
    | succ r ih =>
      intro i Z' P' hi ho eZ' eP'
      unfold wX_makeJoined_80
      rw [xi_10, nI_clamp (show t * 10 + i < 2 ^ 31 by omega), (ho t nt).2 i (by omega)]
      refine br_f (nI_ge (by omega) (by omega)) ⟨vp_in_nI (by omega) (by omega), ?_⟩
      refine xm_addTo (z := za + i) (by omega) eZ' (by omega) (nm_r (nI_1 i) ?_)
      refine ih (i + 1) _ _ (by omega) (fun u hu => ⟨(pk_un hu).trans (ho u hu).1, fun j hj => (pk_un (vv_pl hu hj (by omega))).trans ((ho u hu).2 j hj)⟩) (by rw [pk_us]; rfl) (fun j hj => ?_)
      by_cases ej : j = za + i
      · subst ej
        rw [pk_us, if_neg (by omega), show za + i - za = i by omega]
      · rw [pk_un (by omega)]; exact eP' j (by omega)
  have k47 : ∀ r i (Z' P' : Nat → Int32), i + r = za → (∀ u, u ≠ 53 + rm → Z' u = Z u ∧ ∀ j, j < 10 → P' (u * 10 + j) = P (u * 10 + j)) → Z' (53 + rm) = nI i → (∀ j, j < i → P' ((53 + rm) * 10 + j) = P (s * 10 + j)) →
      wX_makeJoined_47 post (nI s) (nI t) (nI za) (nI zb) (nI (53 + rm)) (r + 1) (nI i) xst xow xin xpa xfi xfr xno xsi xan xkn xen xco (nI (rm + 1)) xac (upd K (53 + rm) 4) (upd N (53 + rm) 0) Z' D Im W P' vS pO pX pI fS fP fI fU fR fO fA fH fG fN aS qL qR qP := by
    intro r
    induction r with
    | zero =>
      intro i Z' P' hi ho eZ' eP'
      have hi' : i = za := by omega
      subst hi'
      unfold wX_makeJoined_47
      refine br_t (nI_le (Nat.le_refl _) (by omega)) ⟨_, k80 zb 0 Z' P' (by omega) ho eZ' (fun j hj => ?_)⟩
      rw [if_pos (show j < i by omega)]
      exact eP' j (by omega)
    | succ r ih =>
      intro i Z' P' hi ho eZ' eP'
      unfold wX_makeJoined_47
      rw [xi_10, nI_clamp (show s * 10 + i < 2 ^ 31 by omega), (ho s ns).2 i (by omega)]
      refine br_f (nI_ge (by omega) (by omega)) ⟨vp_in_nI (by omega) (by omega), ?_⟩
      refine xm_addTo (z := i) (by omega) eZ' (by omega) (nm_r (nI_1 i) ?_)
      refine ih (i + 1) _ _ (by omega) (fun u hu => ⟨(pk_un hu).trans (ho u hu).1, fun j hj => (pk_un (vv_pl hu hj (by omega))).trans ((ho u hu).2 j hj)⟩) pk_us (fun j hj => ?_)
      by_cases ej : j = i
      · subst ej; rw [pk_us]
      · rw [pk_un (by omega)]; exact eP' j (by omega)
  exact ⟨_, k47 za 0 _ _ (by omega) (fun u hu => ⟨pk_un hu, fun _ _ => rfl⟩) pk_us (fun j hj => absurd hj (by omega))⟩
/-! objects are merged -/
theorem nx_or (a b : Nat) : nI a ||| nI b = nI (a ||| b) := by
  apply Int32.toBitVec_inj.1
  show BitVec.ofNat 32 a ||| BitVec.ofNat 32 b = BitVec.ofNat 32 (a ||| b)
  apply BitVec.eq_of_getLsbD_eq
  intro i hi
  simp [hi]
theorem or_bit (a b i : Nat) : (a ||| b) / 2 ^ i % 2 = if a / 2 ^ i % 2 = 1 ∨ b / 2 ^ i % 2 = 1 then 1 else 0 := by
  have h := Nat.testBit_or a b i
  rw [Nat.testBit_eq_decide_div_mod_eq, Nat.testBit_eq_decide_div_mod_eq, Nat.testBit_eq_decide_div_mod_eq] at h
  generalize (a ||| b) / 2 ^ i = x at *
  generalize a / 2 ^ i = y at *
  generalize b / 2 ^ i = z at *
  rcases Nat.mod_two_eq_zero_or_one x with hx | hx <;> rcases Nat.mod_two_eq_zero_or_one y with hy | hy <;> rcases Nat.mod_two_eq_zero_or_one z with hz | hz <;> simp [hx, hy, hz] at h ⊢
theorem or_lt {a b : Nat} (ha : a < 256) (hb : b < 256) : a ||| b < 256 := Nat.or_lt_two_pow (n := 8) ha hb
theorem ky_u {m i k : Nat} (hm : m < 256) (hk : k < 8) (hb : m / 2 ^ k % 2 = 1) (hi : vv_pc m k = i) : ky_k m i 8 = k := by
  have h8 := vv_pc_u (m := m) (a := k + 1) (b := 8) (by omega)
  have hs := vv_pc_s m k
  have h9 := vv_pc_8' (m := m)
  obtain ⟨a1, a2, a3⟩ := ky_t m hm i (by omega) (by omega)
  rcases Nat.lt_trichotomy (ky_k m i 8) k with z | z | z
  · have := vv_pc_u (m := m) (a := ky_k m i 8 + 1) (b := k) z
    have := vv_pc_s m (ky_k m i 8)
    omega
  · exact z
  · have := vv_pc_u (m := m) (a := k + 1) (b := ky_k m i 8) z
    omega
/-- the value of a key in two objects, the second's first -/
def mg_c (P : Nat → Int32) (s t ml mr i : Nat) : Int32 :=
  if mr / 2 ^ ky_k (ml ||| mr) i 8 % 2 = 1 then P (t * 10 + vv_pc mr (ky_k (ml ||| mr) i 8)) else P (s * 10 + vv_pc ml (ky_k (ml ||| mr) i 8))
end
section
theorem xk_merged {xst xow xin xpa xfi xfr xno xsi xan xkn xen xco xrm xac : Int32} {K N Z D Im W P vS pO pX pI fS fP fI fU fR fO fA fH fG fN aS qL qR qP : Nat → Int32} {V : Nat → Prop} {post : SX → Prop} {s t ml mr rm : Nat} {c e q w : Nat → Nat} (hs : s < 653) (ht : t < 653) (er : xrm = nI rm) (hrm : rm < 600) (eNs : N s = nI ml) (eNt : N t = nI mr) (hml : ml < 256) (hmr : mr < 256) (ns : s ≠ 53 + rm) (nt : t ≠ 53 + rm)
    (hc : ns_ch V D Im W (53 + rm) (vv_pc (ml ||| mr) 8) (mg_c P s t ml mr) c e q w) (hne : ∀ u, V u → u ≠ 53 + rm)
    (hp : ∀ K' N' Z' D' Im' W' P' : Nat → Int32, vv_ns (53 + rm) 5 (vv_pc (ml ||| mr) 8) 1 (nI (ml ||| mr)) (mg_c P s t ml mr) e q w K N Z D Im W P K' N' Z' D' Im' W' P' → post (xst, xow, xin, xpa, xfi, xfr, xno, 1, (nI (53 + rm)), xkn, xen, xco, (nI (rm + 1)), xac, K', N', Z', D', Im', W', P', vS, pO, pX, pI, fS, fP, fI, fU, fR, fO, fA, fH, fG, fN, aS, qL, qR, qP)) : wpX_makeMerged post (xst, xow, xin, xpa, xfi, xfr, xno, xsi, xan, xkn, xen, xco, xrm, xac, K, N, Z, D, Im, W, P, vS, pO, pX, pI, fS, fP, fI, fU, fR, fO, fA, fH, fG, fN, aS, qL, qR, qP) (nI s) (nI t) := by
  have his : vp_in (nI s) 653 := vp_in_nI hs (by omega)
  have hit : vp_in (nI t) 653 := vp_in_nI ht (by omega)
  have es : (nI s).toNatClampNeg = s := nI_clamp (by omega)
  have et : (nI t).toNatClampNeg = t := nI_clamp (by omega)
  have hor := or_lt hml hmr
  have h8 := vv_pc_8' (m := ml ||| mr)
  have h8l := vv_pc_8' (m := ml)
  have h8r := vv_pc_8' (m := mr)
  unfold wpX_makeMerged
  dsimp only
  refine xr_runSlot er ⟨his, hit, ?_⟩
  dsimp only
  rw [es, et, eNs, eNt, nx_or]
  refine xm_setNested (by omega) ?_
  have k39 : ∀ r k (Z' P' : Nat → Int32), k + r = 8 → (∀ u, u ≠ 53 + rm → Z' u = Z u ∧ ∀ j, j < 10 → P' (u * 10 + j) = P (u * 10 + j)) → Z' (53 + rm) = nI (vv_pc (ml ||| mr) k) → (∀ j, j < vv_pc (ml ||| mr) k → P' ((53 + rm) * 10 + j) = mg_c P s t ml mr j) →
      wX_makeMerged_39 post (nI s) (nI t) (nI (53 + rm)) (r + 1) (nI (s * 10 + vv_pc ml k)) (nI (t * 10 + vv_pc mr k)) (nI k) xst xow xin xpa xfi xfr xno xsi xan xkn xen xco (nI (rm + 1)) xac (upd K (53 + rm) 5) (upd N (53 + rm) (nI (ml ||| mr))) Z' D Im W P' vS pO pX pI fS fP fI fU fR fO fA fH fG fN aS qL qR qP := by
    intro r
    induction r with
    | zero =>
      intro k Z' P' hk ho eZ' eP'
      have hk' : k = 8 := by omega
      subst hk'
      unfold wX_makeMerged_39
      refine br_t (nI_le (a := 8) (Nat.le_refl _) (by omega)) ?_
      refine xm_ns (V := V) (c := c) (K0 := K) (N0 := N) (Z0 := Z) (P0 := P) (by omega) (by omega) (Or.inr ⟨rfl, rfl⟩) hc hne (fun u hu => ⟨pk_un hu, pk_un hu, (ho u hu).1, (ho u hu).2⟩) pk_us pk_us eZ' eP' (fun D' Im' W' hns => ?_)
      exact xr_give (hp _ _ _ _ _ _ _ hns)
    | succ r ih =>
      intro k Z' P' hk ho eZ' eP'
      have ul := vv_pc_u (m := ml) (a := k + 1) (b := 8) (by omega)
      have ur := vv_pc_u (m := mr) (a := k + 1) (b := 8) (by omega)
      have uo := vv_pc_u (m := ml ||| mr) (a := k + 1) (b := 8) (by omega)
      have sl := vv_pc_s ml k
      have sr := vv_pc_s mr k
      have so := vv_pc_s (ml ||| mr) k
      have ob := or_bit ml mr k
      -- what is behind a key
      have k111 : ∀ (Z2 P2 : Nat → Int32), (∀ u, u ≠ 53 + rm → Z2 u = Z u ∧ ∀ j, j < 10 → P2 (u * 10 + j) = P (u * 10 + j)) → Z2 (53 + rm) = nI (vv_pc (ml ||| mr) (k + 1)) → (∀ j, j < vv_pc (ml ||| mr) (k + 1) → P2 ((53 + rm) * 10 + j) = mg_c P s t ml mr j) →
          wX_makeMerged_111 post (wX_makeMerged_39 post (nI s) (nI t) (nI (53 + rm)) (r + 1)) (nI s) (nI t) (nI (53 + rm)) (nI (s * 10 + vv_pc ml k)) (nI (t * 10 + vv_pc mr k)) (nI k) (nI (ml / 2 ^ k % 2)) (nI (mr / 2 ^ k % 2)) xst xow xin xpa xfi xfr xno xsi xan xkn xen xco (nI (rm + 1)) xac (upd K (53 + rm) 5) (upd N (53 + rm) (nI (ml ||| mr))) Z2 D Im W P2 vS pO pX pI fS fP fI fU fR fO fA fH fG fN aS qL qR qP := by
        intro Z2 P2 ho2 eZ2 eP2
        have := ih (k + 1) Z2 P2 (by omega) ho2 eZ2 eP2
        rw [sl, sr, ← Nat.add_assoc, ← Nat.add_assoc] at this
        unfold wX_makeMerged_111
        exact nm_r (nI_add _ _) (nm_r (nI_add _ _) (nm_r (nI_1 k) this))
      have fill : (ml ||| mr) / 2 ^ k % 2 = 1 → ∀ x : Int32, x = mg_c P s t ml mr (vv_pc (ml ||| mr) k) → ∀ Q : SX → Prop, (∀ (Z2 P2 : Nat → Int32), (∀ u, u ≠ 53 + rm → Z2 u = Z u ∧ ∀ j, j < 10 → P2 (u * 10 + j) = P (u * 10 + j)) → Z2 (53 + rm) = nI (vv_pc (ml ||| mr) (k + 1)) → (∀ j, j < vv_pc (ml ||| mr) (k + 1) → P2 ((53 + rm) * 10 + j) = mg_c P s t ml mr j) → Q (xst, xow, xin, xpa, xfi, xfr, xno, xsi, xan, xkn, xen, xco, (nI (rm + 1)), xac, (upd K (53 + rm) 5), (upd N (53 + rm) (nI (ml ||| mr))), Z2, D, Im, W, P2, vS, pO, pX, pI, fS, fP, fI, fU, fR, fO, fA, fH, fG, fN, aS, qL, qR, qP)) → wpX_addTo Q (xst, xow, xin, xpa, xfi, xfr, xno, xsi, xan, xkn, xen, xco, (nI (rm + 1)), xac, (upd K (53 + rm) 5), (upd N (53 + rm) (nI (ml ||| mr))), Z', D, Im, W, P', vS, pO, pX, pI, fS, fP, fI, fU, fR, fO, fA, fH, fG, fN, aS, qL, qR, qP) (nI (53 + rm)) x := by
        intro hb x hx Q hQ
        refine xm_addTo (z := vv_pc (ml ||| mr) k) (by omega) eZ' (by omega) (hQ _ _ (fun u hu => ⟨(pk_un hu).trans (ho u hu).1, fun j hj => (pk_un (vv_pl hu hj (by omega))).trans ((ho u hu).2 j hj)⟩) (by rw [pk_us, so, hb]) (fun j hj => ?_))
        by_cases ej : j = vv_pc (ml ||| mr) k
        · subst ej
          rw [pk_us]
          exact hx
        · rw [pk_un (by omega)]; exact eP' j (by omega)
      unfold wX_makeMerged_39
      rw [es, et, pk_un ns, pk_un nt, eNs, eNt, kb_bit (show ml < 2 ^ 31 by omega) (show k < 32 by omega), kb_bit (show mr < 2 ^ 31 by omega) (show k < 32 by omega), nI_clamp (show t * 10 + vv_pc mr k < 2 ^ 31 by omega), nI_clamp (show s * 10 + vv_pc ml k < 2 ^ 31 by omega)]
      refine br_f (nI_ge (b := 8) (by omega) (by omega)) ⟨his, nm_e ⟨hit, nm_e (pk_eq (mr / 2 ^ k % 2) 1 (fun e1 => ?_) (fun n1 => pk_eq (ml / 2 ^ k % 2) 1 (fun e2 => ?_) (fun n2 => ?_)))⟩⟩
      · have hb : (ml ||| mr) / 2 ^ k % 2 = 1 := by rw [ob, if_pos (Or.inr e1)]
        have hky := ky_u hor (show k < 8 by omega) hb rfl
        refine ⟨vp_in_nI (by omega) (by omega), fill hb _ ?_ _ k111⟩
        unfold mg_c
        rw [hky, if_pos e1]
        exact (ho t nt).2 _ (by omega)
      · have hb : (ml ||| mr) / 2 ^ k % 2 = 1 := by rw [ob, if_pos (Or.inl e2)]
        have hky := ky_u hor (show k < 8 by omega) hb rfl
        refine ⟨vp_in_nI (by omega) (by omega), fill hb _ ?_ _ k111⟩
        unfold mg_c
        rw [hky, if_neg n1]
        exact (ho s ns).2 _ (by omega)
      · have hb : (ml ||| mr) / 2 ^ k % 2 = 0 := by rw [ob, if_neg (by omega)]
        rw [hb, Nat.add_zero] at so
        exact k111 Z' P' ho (by rw [so]; exact eZ') (by rw [so]; exact eP')
  have := k39 8 0 _ _ (by omega) (fun u hu => ⟨pk_un (f := Z) (x := 0) hu, fun _ _ => rfl⟩) pk_us (fun j hj => absurd hj (by show ¬ j < 0; omega))
  refine nm_r (show nI s * 10 = nI (s * 10 + vv_pc ml 0) from pk_mul s 10) (nm_r (show nI t * 10 = nI (t * 10 + vv_pc mr 0) from pk_mul t 10) ⟨_, this⟩)
end
section
/-! ===== an array without another's ===== -/
def wo_n (fb : Nat → Bool) (k : Nat) : Nat := vv_sm (fun i => if fb i = true then 0 else 1) k
def wo_k (fb : Nat → Bool) (i : Nat) : Nat → Nat
  | 0 => 0
  | k + 1 => if fb k = false ∧ wo_n fb k = i then k else wo_k fb i k
theorem wo_s (fb : Nat → Bool) (k : Nat) : wo_n fb (k + 1) = wo_n fb k + (if fb k = true then 0 else 1) := rfl
theorem wo_u {fb : Nat → Bool} : ∀ {a b : Nat}, a ≤ b → wo_n fb a ≤ wo_n fb b := by
  intro a b
  induction b with
  | zero => intro h; have : a = 0 := by omega
            subst this; exact Nat.le_refl _
  | succ b ih =>
    intro h
    by_cases e : a = b + 1
    · subst e; exact Nat.le_refl _
    · have := ih (by omega)
      rw [wo_s]
      omega
theorem wo_le {fb : Nat → Bool} : ∀ k, wo_n fb k ≤ k
  | 0 => Nat.le_refl _
  | k + 1 => by
    have := wo_le (fb := fb) k
    rw [wo_s]
    split <;> omega
theorem wo_ku {fb : Nat → Bool} {i k : Nat} (hf : fb k = false) (hi : wo_n fb k = i) : ∀ m, k < m → wo_k fb i m = k := by
  intro m
  induction m with
  | zero => intro h; omega
  | succ m ih =>
    intro h
    rw [wo_k]
    by_cases e : m = k
    · subst e
      rw [if_pos ⟨hf, hi⟩]
    · rw [if_neg, ih (by omega)]
      intro w
      have h1 := wo_u (fb := fb) (a := k + 1) (b := m) (by omega)
      rw [wo_s, hf] at h1
      simp at h1
      omega
theorem wo_ex {fb : Nat → Bool} {i : Nat} : ∀ m, i < wo_n fb m → ∃ k, k < m ∧ fb k = false ∧ wo_n fb k = i := by
  intro m
  induction m with
  | zero => intro h; exact absurd h (by show ¬ i < 0; omega)
  | succ m ih =>
    intro h
    by_cases z : i < wo_n fb m
    · obtain ⟨k, a, b, c⟩ := ih z
      exact ⟨k, by omega, b, c⟩
    · rw [wo_s] at h
      cases hb : fb m with
      | true => rw [hb] at h; simp at h; omega
      | false =>
        rw [hb] at h
        simp at h
        exact ⟨m, by omega, hb, by omega⟩
/-- the order doesn't see what happens outside a closed set -/
theorem oo_st {V : Nat → Prop} {K N Z D Im W P K' N' Z' P' : Nat → Int32} (hx : vv_ox V K N Z D Im W P) (e : ∀ u, V u → K' u = K u ∧ N' u = N u ∧ Z' u = Z u ∧ ∀ i, i < 10 → P' (u * 10 + i) = P (u * 10 + i)) : ∀ d s t, V s → V t → oo_c (oo_h K' N') Z' P' d s t = oo_c (oo_h K N) Z P d s t := by
  have hh : ∀ s t, V s → V t → oo_h K' N' s t = oo_h K N s t := by
    intro s t hs ht
    obtain ⟨a1, a2, _⟩ := e s hs
    obtain ⟨b1, b2, _⟩ := e t ht
    unfold oo_h
    rw [a1, a2, b1, b2]
  intro d
  induction d with
  | zero => intro s t hs ht; exact hh s t hs ht
  | succ d ih =>
    intro s t hs ht
    obtain ⟨_, _, a3, a4⟩ := e s hs
    obtain ⟨_, _, b3, b4⟩ := e t ht
    obtain ⟨z, hz, ez, hc⟩ := vv_ox_z hx hs
    obtain ⟨z', hz', ez', hc'⟩ := vv_ox_z hx ht
    rw [oo_c, oo_c, hh s t hs ht, a3, b3, ez, ez', nI_clamp (by omega), nI_clamp (by omega)]
    have : oo_l (fun i => oo_c (oo_h K' N') Z' P' d (dp_ch P' s i) (dp_ch P' t i)) (oo_sg z z') (min z z') 0 = oo_l (fun i => oo_c (oo_h K N) Z P d (dp_ch P s i) (dp_ch P t i)) (oo_sg z z') (min z z') 0 := by
      apply oo_l_c
      intro i hi
      obtain ⟨c, c1, c2, c3⟩ := hc i (by omega)
      obtain ⟨c', d1, d2, d3⟩ := hc' i (by omega)
      show oo_c (oo_h K' N') Z' P' d (dp_ch P' s i) (dp_ch P' t i) = oo_c (oo_h K N) Z P d (dp_ch P s i) (dp_ch P t i)
      unfold dp_ch
      rw [a4 i (by omega), b4 i (by omega), c1, d1, nI_clamp (by omega), nI_clamp (by omega)]
      exact ih c c' c3 d3
    rw [this]
theorem xk_without {xst xow xin xpa xfi xfr xno xsi xan xkn xen xco xrm xac : Int32} {K N Z D Im W P vS pO pX pI fS fP fI fU fR fO fA fH fG fN aS qL qR qP : Nat → Int32} {V : Nat → Prop} {post : SX → Prop} {s t za zb rm : Nat} {fb : Nat → Bool} {c e q w : Nat → Nat} (hx : vv_ox V K N Z D Im W P) (hVs : V s) (hVt : V t) (er : xrm = nI rm) (hrm : rm < 600) (eZs : Z s = nI za) (eZt : Z t = nI zb) (hza : za ≤ 10) (hzb : zb ≤ 10)
    (hf : ∀ i, i < za → (fb i = true → ∃ j, j < zb ∧ oo_c (oo_h K N) Z P 4 (dp_ch P s i) (dp_ch P t j) = 0) ∧ (fb i = false → ∀ j, j < zb → ¬ oo_c (oo_h K N) Z P 4 (dp_ch P s i) (dp_ch P t j) = 0))
    (hc : ns_ch V D Im W (53 + rm) (wo_n fb za) (fun i => P (s * 10 + wo_k fb i za)) c e q w) (hne : ∀ u, V u → u ≠ 53 + rm)
    (hp : ∀ K' N' Z' D' Im' W' P' qL' qR' qP' : Nat → Int32, vv_ns (53 + rm) 4 (wo_n fb za) 0 0 (fun i => P (s * 10 + wo_k fb i za)) e q w K N Z D Im W P K' N' Z' D' Im' W' P' → post (xst, xow, xin, xpa, xfi, xfr, xno, 1, (nI (53 + rm)), xkn, xen, xco, (nI (rm + 1)), xac, K', N', Z', D', Im', W', P', vS, pO, pX, pI, fS, fP, fI, fU, fR, fO, fA, fH, fG, fN, aS, qL', qR', qP')) : wpX_makeWithout post (xst, xow, xin, xpa, xfi, xfr, xno, xsi, xan, xkn, xen, xco, xrm, xac, K, N, Z, D, Im, W, P, vS, pO, pX, pI, fS, fP, fI, fU, fR, fO, fA, fH, fG, fN, aS, qL, qR, qP) (nI s) (nI t) := by
  have hs := (hx s hVs).1
  have ht := (hx t hVt).1
  have his : vp_in (nI s) 653 := vp_in_nI hs (by omega)
  have hit : vp_in (nI t) 653 := vp_in_nI ht (by omega)
  have es : (nI s).toNatClampNeg = s := nI_clamp (by omega)
  have et : (nI t).toNatClampNeg = t := nI_clamp (by omega)
  have ns := hne s hVs
  have nt := hne t hVt
  have hwl := wo_le (fb := fb) za
  obtain ⟨z1, hz1, ez1, hcs⟩ := vv_ox_z hx hVs
  obtain ⟨z2, hz2, ez2, hct⟩ := vv_ox_z hx hVt
  have e1 : z1 = za := (nI_eq (by omega) (by omega)).mp (ez1.symm.trans eZs)
  have e2 : z2 = zb := (nI_eq (by omega) (by omega)).mp (ez2.symm.trans eZt)
  subst e1 e2
  unfold wpX_makeWithout
  dsimp only
  rw [es, et, eZs, eZt]
  refine ⟨his, nm_e ⟨hit, nm_e (xr_runSlot er (xm_setNested (by omega) ?_))⟩⟩
  have k32 : ∀ r i (Z' P' qL qR qP : Nat → Int32), i + r = z1 → (∀ u, u ≠ 53 + rm → Z' u = Z u ∧ ∀ j, j < 10 → P' (u * 10 + j) = P (u * 10 + j)) → Z' (53 + rm) = nI (wo_n fb i) → (∀ j, j < wo_n fb i → P' ((53 + rm) * 10 + j) = P (s * 10 + wo_k fb j z1)) →
      wX_makeWithout_32 post (nI s) (nI t) (nI z1) (nI z2) (nI (53 + rm)) (r + 1) (nI i) xst xow xin xpa xfi xfr xno xsi xan xkn xen xco (nI (rm + 1)) xac (upd K (53 + rm) 4) (upd N (53 + rm) 0) Z' D Im W P' vS pO pX pI fS fP fI fU fR fO fA fH fG fN aS qL qR qP := by
    intro r
    induction r with
    | zero =>
      intro i Z' P' qL qR qP hi ho eZ' eP'
      have hi' : i = z1 := by omega
      subst hi'
      unfold wX_makeWithout_32
      refine br_t (nI_le (Nat.le_refl _) (by omega)) ?_
      refine xm_ns (V := V) (c := c) (K0 := K) (N0 := N) (Z0 := Z) (P0 := P) (by omega) (by omega) (Or.inl ⟨rfl, rfl⟩) hc hne (fun u hu => ⟨pk_un hu, pk_un hu, (ho u hu).1, (ho u hu).2⟩) pk_us pk_us eZ' eP' (fun D' Im' W' hns => ?_)
      exact xr_give (hp _ _ _ _ _ _ _ _ _ _ hns)
    | succ r ih =>
      intro i Z' P' qL qR qP hi ho eZ' eP'
      obtain ⟨ci, a1, a2, a3⟩ := hcs i (by omega)
      have aci : dp_ch P s i = ci := by rw [dp_ch, a1, nI_clamp (by omega)]
      obtain ⟨f1, f2⟩ := hf i (by omega)
      rw [aci] at f1 f2
      have hu := wo_u (fb := fb) (a := i + 1) (b := z1) (by omega)
      have hsn := wo_s fb i
      -- the heap as it stands, on V
      have heq : vv_eq V K N Z D Im W P (upd K (53 + rm) 4) (upd N (53 + rm) 0) Z' D Im W P' := fun u hu => ⟨pk_un (hne u hu), pk_un (hne u hu), (ho u (hne u hu)).1, rfl, rfl, rfl, (ho u (hne u hu)).2⟩
      have hx' := vv_ox_eq hx heq
      have hst := oo_st (K' := upd K (53 + rm) 4) (N' := upd N (53 + rm) 0) (Z' := Z') (P' := P') hx (fun u hu => ⟨pk_un (hne u hu), pk_un (hne u hu), (ho u (hne u hu)).1, (ho u (hne u hu)).2⟩)
      have k108 : ∀ (x8 : Int32) (qL qR qP : Nat → Int32), (x8 = 0 → fb i = false) → (¬ x8 = 0 → fb i = true) → wX_makeWithout_108 post (wX_makeWithout_32 post (nI s) (nI t) (nI z1) (nI z2) (nI (53 + rm)) (r + 1)) (nI s) (nI t) (nI z1) (nI z2) (nI (53 + rm)) (nI i) (nI ci) x8 xst xow xin xpa xfi xfr xno xsi xan xkn xen xco (nI (rm + 1)) xac (upd K (53 + rm) 4) (upd N (53 + rm) 0) Z' D Im W P' vS pO pX pI fS fP fI fU fR fO fA fH fG fN aS qL qR qP := by
        intro x8 qL qR qP g0 g1
        unfold wX_makeWithout_108
        refine br_c (fun z => ?_) (fun z => nm_r (nI_1 i) ?_)
        · have hb := g0 z
          rw [hb, if_neg (by decide)] at hsn
          refine xm_addTo (z := wo_n fb i) (by omega) eZ' (by omega) (nm_r (nI_1 i) ?_)
          refine ih (i + 1) _ _ qL qR qP (by omega) (fun u hu => ⟨(pk_un hu).trans (ho u hu).1, fun j hj => (pk_un (vv_pl hu hj (by omega))).trans ((ho u hu).2 j hj)⟩) (by rw [pk_us, hsn]) (fun j hj => ?_)
          by_cases ej : j = wo_n fb i
          · subst ej
            rw [pk_us, wo_ku hb rfl z1 (by omega)]
            exact a1.symm
          · rw [pk_un (by omega)]
            exact eP' j (by omega)
        · have hb := g1 z
          rw [hb, if_pos rfl, Nat.add_zero] at hsn
          exact ih (i + 1) Z' P' qL qR qP (by omega) ho (by rw [hsn]; exact eZ') (by rw [hsn]; exact eP')
      have k58 : ∀ m j (qL qR qP : Nat → Int32), j + m = z2 → (∀ j', j' < j → ¬ oo_c (oo_h K N) Z P 4 ci (dp_ch P t j') = 0) → wX_makeWithout_58 post (wX_makeWithout_32 post (nI s) (nI t) (nI z1) (nI z2) (nI (53 + rm)) (r + 1)) (nI s) (nI t) (nI z1) (nI z2) (nI (53 + rm)) (nI i) (nI ci) (m + 2) 0 (nI j) xst xow xin xpa xfi xfr xno xsi xan xkn xen xco (nI (rm + 1)) xac (upd K (53 + rm) 4) (upd N (53 + rm) 0) Z' D Im W P' vS pO pX pI fS fP fI fU fR fO fA fH fG fN aS qL qR qP := by
        intro m
        induction m with
        | zero =>
          intro j qL qR qP hj hno
          unfold wX_makeWithout_58
          refine br_t (nI_le (by omega) (by omega)) (k108 0 qL qR qP (fun _ => ?_) (fun z => absurd rfl z))
          cases hb : fb i with
          | false => rfl
          | true =>
            obtain ⟨j', j1, j2⟩ := f1 hb
            exact absurd j2 (hno j' (by omega))
        | succ m ihm =>
          intro j qL qR qP hj hno
          obtain ⟨cj, b1, b2, b3⟩ := hct j (by omega)
          have bcj : dp_ch P t j = cj := by rw [dp_ch, b1, nI_clamp (by omega)]
          unfold wX_makeWithout_58
          rw [xi_10, nI_clamp (show t * 10 + j < 2 ^ 31 by omega), (ho t nt).2 j (by omega), b1]
          refine br_f (nI_ge (by omega) (by omega)) (br_t rfl ⟨vp_in_nI (by omega) (by omega), ?_⟩)
          refine xm_compared hx' a3 b3 (fun r qL' qR' qP' hsm => ?_)
          rw [hst 4 ci cj a3 b3] at hsm
          refine br_c (fun z => nm_r (nI_1 j) ?_) (fun z => nm_r (nI_1 j) ?_)
          · have hb : fb i = true := by
              cases hb : fb i with
              | true => rfl
              | false => exact absurd (hsm.1.mp z) (by have := f2 hb j (by omega); rw [bcj] at this; exact this)
            have := k108 1 qL' qR' qP' (fun z => absurd z (by decide)) (fun _ => hb)
            unfold wX_makeWithout_58
            exact br_c (fun _ => this) (fun _ => br_f (by decide) this)
          · refine ihm (j + 1) qL' qR' qP' (by omega) (fun j' hj' => ?_)
            by_cases ej : j' = j
            · subst ej
              rw [bcj]
              exact fun w => z (hsm.1.mpr w)
            · exact hno j' (by omega)
      unfold wX_makeWithout_32
      rw [xi_10, nI_clamp (show s * 10 + i < 2 ^ 31 by omega), (ho s ns).2 i (by omega), a1]
      exact br_f (nI_ge (by omega) (by omega)) ⟨vp_in_nI (by omega) (by omega), nm_e ⟨_, k58 z2 0 qL qR qP (by omega) (fun j hj => absurd hj (by omega))⟩⟩
  exact ⟨_, k32 z1 0 _ _ qL qR qP (by omega) (fun u hu => ⟨pk_un hu, fun _ _ => rfl⟩) pk_us (fun j hj => absurd hj (by show ¬ j < 0; omega))⟩
end
section
/-! ===== X: what is counted before it is made ===== -/
theorem xk_1shl {x : Nat} (hx : x < 8) : (1 : Int32) <<< (nI x &&& 31) = nI (2 ^ x) := by
  have h : 1 * 2 ^ x < 2 ^ 32 := by
    have : 2 ^ x ≤ 2 ^ 7 := Nat.pow_le_pow_right (by decide) (by omega)
    omega
  have := pk_shlN (n := 1) (nI x &&& 31) x (s_l x (by omega)) h
  rw [Nat.one_mul] at this
  exact this
theorem xk_object {xst xow xin xpa xfi xfr xno xsi xan xkn xen xco xrm xac : Int32} {K N Z D Im W P vS pO pX pI fS fP fI fU fR fO fA fH fG fN aS qL qR qP : Nat → Int32} {V : Nat → Prop} {post : SX → Prop} {g pq s x d rm : Nat} {c e q w : Nat → Nat} (eg : xno = nI g) (hg : g < 600) (eP : fP g = nI pq) (hpq : pq < 40) (eX : pX pq = nI x) (hx : x < 8) (hs : s < 653) (eD : D s = nI d) (hd : d ≤ 4) (er : xrm = nI rm) (hrm : rm < 600) (hc : ns_ch V D Im W (53 + rm) 1 (fun _ => nI s) c e q w) (hne : ∀ u, V u → u ≠ 53 + rm)
    (h3 : 4 ≤ d → post (xst, xow, xin, xpa, xfi, xfr, xno, 3, xan, xkn, xen, xco, xrm, xac, K, N, Z, D, Im, W, P, vS, pO, pX, pI, fS, fP, fI, fU, fR, fO, fA, fH, fG, fN, aS, qL, qR, qP))
    (hp : d < 4 → ∀ K' N' Z' D' Im' W' P' : Nat → Int32, vv_ns (53 + rm) 5 1 1 (nI (2 ^ x)) (fun _ => nI s) e q w K N Z D Im W P K' N' Z' D' Im' W' P' → post (xst, xow, xin, xpa, xfi, xfr, xno, 1, (nI (53 + rm)), xkn, xen, xco, (nI (rm + 1)), xac, K', N', Z', D', Im', W', P', vS, pO, pX, pI, fS, fP, fI, fU, fR, fO, fA, fH, fG, fN, aS, qL, qR, qP)) : wpX_makeObject post (xst, xow, xin, xpa, xfi, xfr, xno, xsi, xan, xkn, xen, xco, xrm, xac, K, N, Z, D, Im, W, P, vS, pO, pX, pI, fS, fP, fI, fU, fR, fO, fA, fH, fG, fN, aS, qL, qR, qP) (nI s) := by
  subst eg
  have eg' : (nI g).toNatClampNeg = g := nI_clamp (by omega)
  have hin : vp_in (nI g) 600 := vp_in_nI hg (by omega)
  have his : vp_in (nI s) 653 := vp_in_nI hs (by omega)
  have es : (nI s).toNatClampNeg = s := nI_clamp (by omega)
  unfold wpX_makeObject
  dsimp only
  rw [es, eD]
  refine ⟨his, pk_lt d 4 (fun hlt => ?_) (fun hge => h3 hge)⟩
  refine xr_runSlot er ?_
  dsimp only
  rw [eg', eP, nI_clamp (show pq < 2 ^ 31 by omega), eX, xk_1shl hx]
  refine ⟨hin, vp_in_nI hpq (by omega), xm_setNested (by omega) (xm_addTo (z := 0) (by omega) pk_us (by omega) ?_)⟩
  refine xm_ns (V := V) (c := c) (K0 := K) (N0 := N) (Z0 := Z) (P0 := P) (by omega) (by omega) (Or.inr ⟨rfl, rfl⟩) hc hne (fun u hu => ⟨pk_un hu, pk_un hu, (pk_un hu).trans (pk_un hu), fun i hi => pk_un (vv_pl hu hi (by omega))⟩) pk_us pk_us pk_us (fun i hi => ?_) (fun D' Im' W' hns => ?_)
  · have : i = 0 := by omega
    subst this
    exact pk_us
  · exact xr_give (hp hlt _ _ _ _ _ _ _ hns)
theorem xk_sum {xst xow xin xpa xfi xfr xno xsi xan xkn xen xco xrm xac : Int32} {K N Z D Im W P vS pO pX pI fS fP fI fU fR fO fA fH fG fN aS qL qR qP : Nat → Int32} {post : SX → Prop} {s t κ κ' rm : Nat} (hs : s < 653) (ht : t < 653) (eK : K s = nI κ) (eK' : K t = nI κ') (hκ : κ ≤ 5) (hκ' : κ' ≤ 5) (er : xrm = nI rm) (hrm : rm < 600)
    (h0 : κ = 0 → post (xst, xow, xin, xpa, xfi, xfr, xno, 1, (nI t), xkn, xen, xco, xrm, xac, K, N, Z, D, Im, W, P, vS, pO, pX, pI, fS, fP, fI, fU, fR, fO, fA, fH, fG, fN, aS, qL, qR, qP)) (h0' : κ ≠ 0 → κ' = 0 → post (xst, xow, xin, xpa, xfi, xfr, xno, 1, (nI s), xkn, xen, xco, xrm, xac, K, N, Z, D, Im, W, P, vS, pO, pX, pI, fS, fP, fI, fU, fR, fO, fA, fH, fG, fN, aS, qL, qR, qP)) (h3 : κ ≠ 0 → κ' ≠ 0 → (κ ≠ κ' ∨ κ < 3) → post (xst, xow, xin, xpa, xfi, xfr, xno, 3, xan, xkn, xen, xco, xrm, xac, K, N, Z, D, Im, W, P, vS, pO, pX, pI, fS, fP, fI, fU, fR, fO, fA, fH, fG, fN, aS, qL, qR, qP))
    (hn : κ = 3 → κ' = 3 → post (xst, xow, xin, xpa, xfi, xfr, xno, 1, (nI (53 + rm)), xkn, xen, xco, (nI (rm + 1)), xac, (upd K (53 + rm) 3), (upd N (53 + rm) (N s + N t)), (upd Z (53 + rm) 0), (upd D (53 + rm) 0), (upd Im (53 + rm) 1), (upd W (53 + rm) 1), P, vS, pO, pX, pI, fS, fP, fI, fU, fR, fO, fA, fH, fG, fN, aS, qL, qR, qP))
    (hj : κ = 4 → κ' = 4 → ∀ Q : SX → Prop, (∀ (xst' xow' xin' xpa' xfi' xfr' xno' xsi' xan' xkn' xen' xco' xrm' xac' : Int32) (K' N' Z' D' Im' W' P' vS' pO' pX' pI' fS' fP' fI' fU' fR' fO' fA' fH' fG' fN' aS' qL' qR' qP' : Nat → Int32), post (xst', xow', xin', xpa', xfi', xfr', xno', xsi', xan', xkn', xen', xco', xrm', xac', K', N', Z', D', Im', W', P', vS', pO', pX', pI', fS', fP', fI', fU', fR', fO', fA', fH', fG', fN', aS', qL', qR', qP') → Q (xst', xow', xin', xpa', xfi', xfr', xno', xsi', xan', xkn', xen', xco', xrm', xac', K', N', Z', D', Im', W', P', vS', pO', pX', pI', fS', fP', fI', fU', fR', fO', fA', fH', fG', fN', aS', qL', qR', qP')) → wpX_makeJoined Q (xst, xow, xin, xpa, xfi, xfr, xno, xsi, xan, xkn, xen, xco, xrm, xac, K, N, Z, D, Im, W, P, vS, pO, pX, pI, fS, fP, fI, fU, fR, fO, fA, fH, fG, fN, aS, qL, qR, qP) (nI s) (nI t)) (hm : κ = 5 → κ' = 5 → ∀ Q : SX → Prop, (∀ (xst' xow' xin' xpa' xfi' xfr' xno' xsi' xan' xkn' xen' xco' xrm' xac' : Int32) (K' N' Z' D' Im' W' P' vS' pO' pX' pI' fS' fP' fI' fU' fR' fO' fA' fH' fG' fN' aS' qL' qR' qP' : Nat → Int32), post (xst', xow', xin', xpa', xfi', xfr', xno', xsi', xan', xkn', xen', xco', xrm', xac', K', N', Z', D', Im', W', P', vS', pO', pX', pI', fS', fP', fI', fU', fR', fO', fA', fH', fG', fN', aS', qL', qR', qP') → Q (xst', xow', xin', xpa', xfi', xfr', xno', xsi', xan', xkn', xen', xco', xrm', xac', K', N', Z', D', Im', W', P', vS', pO', pX', pI', fS', fP', fI', fU', fR', fO', fA', fH', fG', fN', aS', qL', qR', qP')) → wpX_makeMerged Q (xst, xow, xin, xpa, xfi, xfr, xno, xsi, xan, xkn, xen, xco, xrm, xac, K, N, Z, D, Im, W, P, vS, pO, pX, pI, fS, fP, fI, fU, fR, fO, fA, fH, fG, fN, aS, qL, qR, qP) (nI s) (nI t)) : wpX_makeSum post (xst, xow, xin, xpa, xfi, xfr, xno, xsi, xan, xkn, xen, xco, xrm, xac, K, N, Z, D, Im, W, P, vS, pO, pX, pI, fS, fP, fI, fU, fR, fO, fA, fH, fG, fN, aS, qL, qR, qP) (nI s) (nI t) := by
  have his : vp_in (nI s) 653 := vp_in_nI hs (by omega)
  have hit : vp_in (nI t) 653 := vp_in_nI ht (by omega)
  have es : (nI s).toNatClampNeg = s := nI_clamp (by omega)
  have et : (nI t).toNatClampNeg = t := nI_clamp (by omega)
  unfold wpX_makeSum
  dsimp only
  rw [es, et, eK, eK']
  refine ⟨his, nm_e (pk_eq κ 0 (fun z => xr_give (h0 z)) (fun n0 => ⟨hit, pk_eq κ' 0 (fun z => xr_give (h0' n0 z)) (fun n0' => ⟨hit, pk_eq κ κ' (fun ee => ?_) (fun ne => h3 n0 n0' (Or.inl ne))⟩)⟩))⟩
  refine pk_eq κ 3 (fun z => ⟨his, hit, xr_giveNumber er hrm (hn z (by omega))⟩) (fun n3 => pk_eq κ 4 (fun z => hj z (by omega) _ ?_) (fun n4 => pk_eq κ 5 (fun z => hm z (by omega) _ ?_) (fun n5 => h3 n0 n0' (Or.inr (by omega)))))
  · intros
    assumption
  · intros
    assumption
theorem xk_number {xst xow xin xpa xfi xfr xno xsi xan xkn xen xco xrm xac : Int32} {K N Z D Im W P vS pO pX pI fS fP fI fU fR fO fA fH fG fN aS qL qR qP : Nat → Int32} {post : SX → Prop} {oq rm : Nat} {a b y : Int32} (h24 : 24 ≤ oq) (h27 : oq ≤ 27) (er : xrm = nI rm) (hrm : rm < 600) (h3 : 26 ≤ oq → b = 0 → post (xst, xow, xin, xpa, xfi, xfr, xno, 3, xan, xkn, xen, xco, xrm, xac, K, N, Z, D, Im, W, P, vS, pO, pX, pI, fS, fP, fI, fU, fR, fO, fA, fH, fG, fN, aS, qL, qR, qP))
    (hy : (oq = 24 → y = a - b) ∧ (oq = 25 → y = a * b) ∧ (oq = 26 → y = a / b) ∧ (oq = 27 → y = a - a / b * b))
    (hp : (26 ≤ oq → ¬ b = 0) → post (xst, xow, xin, xpa, xfi, xfr, xno, 1, (nI (53 + rm)), xkn, xen, xco, (nI (rm + 1)), xac, (upd K (53 + rm) 3), (upd N (53 + rm) y), (upd Z (53 + rm) 0), (upd D (53 + rm) 0), (upd Im (53 + rm) 1), (upd W (53 + rm) 1), P, vS, pO, pX, pI, fS, fP, fI, fU, fR, fO, fA, fH, fG, fN, aS, qL, qR, qP)) : wpX_makeNumber post (xst, xow, xin, xpa, xfi, xfr, xno, xsi, xan, xkn, xen, xco, xrm, xac, K, N, Z, D, Im, W, P, vS, pO, pX, pI, fS, fP, fI, fU, fR, fO, fA, fH, fG, fN, aS, qL, qR, qP) (nI oq) a b := by
  unfold wpX_makeNumber
  dsimp only
  obtain ⟨y1, y2, y3, y4⟩ := hy
  refine pk_eq oq 24 (fun z => ?_) (fun n24 => pk_eq oq 25 (fun z => ?_) (fun n25 => br_c (fun z => h3 (by omega) z) (fun nb => pk_eq oq 26 (fun z => ⟨nb, ?_⟩) (fun n26 => ⟨nb, ?_⟩))))
  · rw [y1 z] at hp
    exact xr_giveNumber er hrm (hp (fun w => absurd w (by omega)))
  · rw [y2 z] at hp
    exact xr_giveNumber er hrm (hp (fun w => absurd w (by omega)))
  · rw [y3 z] at hp
    exact xr_giveNumber er hrm (hp (fun _ => nb))
  · rw [y4 (by omega)] at hp
    exact xr_giveNumber er hrm (hp (fun _ => nb))
theorem xk_tired {xst xow xin xpa xfi xfr xno xsi xan xkn xen xco xrm xac : Int32} {K N Z D Im W P vS pO pX pI fS fP fI fU fR fO fA fH fG fN aS qL qR qP : Nat → Int32} {post : SX → Prop} (ec : xco = nI 600) (hp : post (xst, xow, xin, xpa, xfi, xfr, xno, xsi, xan, xkn, 3, xco, xrm, xac, K, N, Z, D, Im, W, P, vS, pO, pX, pI, fS, fP, fI, fU, fR, fO, fA, fH, fG, fN, aS, qL, qR, qP)) : wpX_makeCounted post (xst, xow, xin, xpa, xfi, xfr, xno, xsi, xan, xkn, xen, xco, xrm, xac, K, N, Z, D, Im, W, P, vS, pO, pX, pI, fS, fP, fI, fU, fR, fO, fA, fH, fG, fN, aS, qL, qR, qP) := by
  unfold wpX_makeCounted
  dsimp only
  exact xr_tired ec (br_t rfl hp)
theorem xk_20 {xst xow xin xpa xfi xfr xno xsi xan xkn xen xco xrm xac : Int32} {K N Z D Im W P vS pO pX pI fS fP fI fU fR fO fA fH fG fN aS qL qR qP : Nat → Int32} {xst' xow' xin' xpa' xfi' xfr' xno' xsi' xan' xkn' xen' xco' xrm' xac' : Int32} {K' N' Z' D' Im' W' P' vS' pO' pX' pI' fS' fP' fI' fU' fR' fO' fA' fH' fG' fN' aS' qL' qR' qP' : Nat → Int32} {post : SX → Prop} {g pq c : Nat} (eg : xno = nI g) (hg : g < 600) (eP : fP g = nI pq) (hpq : pq < 40) (eO : pO pq = nI 20) (ec : xco = nI c) (hc : c < 600) (hA : ∀ Q : SX → Prop, Q (xst', xow', xin', xpa', xfi', xfr', xno', xsi', xan', xkn', xen', xco', xrm', xac', K', N', Z', D', Im', W', P', vS', pO', pX', pI', fS', fP', fI', fU', fR', fO', fA', fH', fG', fN', aS', qL', qR', qP') → wpX_makeObject Q (xst, xow, xin, xpa, xfi, xfr, xno, xsi, xan, xkn, xen, (nI (c + 1)), xrm, xac, K, N, Z, D, Im, W, P, vS, pO, pX, pI, fS, fP, fI, fU, fR, fO, fA, fH, fG, fN, aS, qL, qR, qP) xan) (hp : post (xst', xow', xin', xpa', xfi', xfr', xno', xsi', xan', xkn', xen', xco', xrm', xac', K', N', Z', D', Im', W', P', vS', pO', pX', pI', fS', fP', fI', fU', fR', fO', fA', fH', fG', fN', aS', qL', qR', qP')) : wpX_makeCounted post (xst, xow, xin, xpa, xfi, xfr, xno, xsi, xan, xkn, xen, xco, xrm, xac, K, N, Z, D, Im, W, P, vS, pO, pX, pI, fS, fP, fI, fU, fR, fO, fA, fH, fG, fN, aS, qL, qR, qP) := by
  subst eg
  have eg' : (nI g).toNatClampNeg = g := nI_clamp (by omega)
  have hin : vp_in (nI g) 600 := vp_in_nI hg (by omega)
  have hiq : vp_in (nI pq) 40 := vp_in_nI hpq (by omega)
  unfold wpX_makeCounted
  dsimp only
  refine xr_counts ec hc ?_
  dsimp only
  rw [eg', eP, nI_clamp (show pq < 2 ^ 31 by omega), eO]
  refine br_f (by decide) ⟨hin, hiq, nm_e ⟨hin, nm_e ?_⟩⟩
  exact br_t rfl (hA _ hp)
theorem xk_23 {xst xow xin xpa xfi xfr xno xsi xan xkn xen xco xrm xac : Int32} {K N Z D Im W P vS pO pX pI fS fP fI fU fR fO fA fH fG fN aS qL qR qP : Nat → Int32} {xst' xow' xin' xpa' xfi' xfr' xno' xsi' xan' xkn' xen' xco' xrm' xac' : Int32} {K' N' Z' D' Im' W' P' vS' pO' pX' pI' fS' fP' fI' fU' fR' fO' fA' fH' fG' fN' aS' qL' qR' qP' : Nat → Int32} {post : SX → Prop} {g pq c : Nat} (eg : xno = nI g) (hg : g < 600) (eP : fP g = nI pq) (hpq : pq < 40) (eO : pO pq = nI 23) (ec : xco = nI c) (hc : c < 600) (hA : ∀ Q : SX → Prop, Q (xst', xow', xin', xpa', xfi', xfr', xno', xsi', xan', xkn', xen', xco', xrm', xac', K', N', Z', D', Im', W', P', vS', pO', pX', pI', fS', fP', fI', fU', fR', fO', fA', fH', fG', fN', aS', qL', qR', qP') → wpX_makeSum Q (xst, xow, xin, xpa, xfi, xfr, xno, xsi, xan, xkn, xen, (nI (c + 1)), xrm, xac, K, N, Z, D, Im, W, P, vS, pO, pX, pI, fS, fP, fI, fU, fR, fO, fA, fH, fG, fN, aS, qL, qR, qP) (fH g) xan) (hp : post (xst', xow', xin', xpa', xfi', xfr', xno', xsi', xan', xkn', xen', xco', xrm', xac', K', N', Z', D', Im', W', P', vS', pO', pX', pI', fS', fP', fI', fU', fR', fO', fA', fH', fG', fN', aS', qL', qR', qP')) : wpX_makeCounted post (xst, xow, xin, xpa, xfi, xfr, xno, xsi, xan, xkn, xen, xco, xrm, xac, K, N, Z, D, Im, W, P, vS, pO, pX, pI, fS, fP, fI, fU, fR, fO, fA, fH, fG, fN, aS, qL, qR, qP) := by
  subst eg
  have eg' : (nI g).toNatClampNeg = g := nI_clamp (by omega)
  have hin : vp_in (nI g) 600 := vp_in_nI hg (by omega)
  have hiq : vp_in (nI pq) 40 := vp_in_nI hpq (by omega)
  unfold wpX_makeCounted
  dsimp only
  refine xr_counts ec hc ?_
  dsimp only
  rw [eg', eP, nI_clamp (show pq < 2 ^ 31 by omega), eO]
  refine br_f (by decide) ⟨hin, hiq, nm_e ⟨hin, nm_e ?_⟩⟩
  exact br_f (by decide) (br_f (by decide) (br_f (by decide) (br_f (by decide) (br_f (by decide) (br_t rfl (hA _ hp))))))
theorem xk_30 {xst xow xin xpa xfi xfr xno xsi xan xkn xen xco xrm xac : Int32} {K N Z D Im W P vS pO pX pI fS fP fI fU fR fO fA fH fG fN aS qL qR qP : Nat → Int32} {post : SX → Prop} {g pq c : Nat} (eg : xno = nI g) (hg : g < 600) (eP : fP g = nI pq) (hpq : pq < 40) (eO : pO pq = nI 30) (ec : xco = nI c) (hc : c < 600) {s κ : Nat} (ea : xan = nI s) (hs : s < 653) (eK : K s = nI κ) (hκ : κ ≤ 5) (h2 : 2 ≤ κ → post (xst, xow, xin, xpa, xfi, xfr, xno, 1, 2, xkn, xen, (nI (c + 1)), xrm, xac, K, N, Z, D, Im, W, P, vS, pO, pX, pI, fS, fP, fI, fU, fR, fO, fA, fH, fG, fN, aS, qL, qR, qP)) (h1 : κ < 2 → post (xst, xow, xin, xpa, xfi, xfr, xno, 1, 1, xkn, xen, (nI (c + 1)), xrm, xac, K, N, Z, D, Im, W, P, vS, pO, pX, pI, fS, fP, fI, fU, fR, fO, fA, fH, fG, fN, aS, qL, qR, qP)) : wpX_makeCounted post (xst, xow, xin, xpa, xfi, xfr, xno, xsi, xan, xkn, xen, xco, xrm, xac, K, N, Z, D, Im, W, P, vS, pO, pX, pI, fS, fP, fI, fU, fR, fO, fA, fH, fG, fN, aS, qL, qR, qP) := by
  subst eg
  have eg' : (nI g).toNatClampNeg = g := nI_clamp (by omega)
  have hin : vp_in (nI g) 600 := vp_in_nI hg (by omega)
  have hiq : vp_in (nI pq) 40 := vp_in_nI hpq (by omega)
  have k64 : wX_makeCounted_64 post xan xst xow xin xpa xfi xfr (nI g) xsi xan xkn xen (nI (c + 1)) xrm xac K N Z D Im W P vS pO pX pI fS fP fI fU fR fO fA fH fG fN aS qL qR qP := by
    unfold wX_makeCounted_64
    rw [ea]
    refine xr_isEmpty hs eK hκ (fun w => br_t rfl ?_) (fun w => br_f (by decide) ?_)
    · unfold wX_makeCounted_82
      exact xr_giveTruth (fun z => absurd z (by decide)) (fun _ => h2 w)
    · unfold wX_makeCounted_82
      exact xr_giveTruth (fun _ => h1 w) (fun z => absurd rfl z)
  unfold wpX_makeCounted
  dsimp only
  refine xr_counts ec hc ?_
  dsimp only
  rw [eg', eP, nI_clamp (show pq < 2 ^ 31 by omega), eO]
  refine br_f (by decide) ⟨hin, hiq, nm_e ⟨hin, nm_e ?_⟩⟩
  exact br_f (by decide) (br_t rfl (k64))
theorem xk_31 {xst xow xin xpa xfi xfr xno xsi xan xkn xen xco xrm xac : Int32} {K N Z D Im W P vS pO pX pI fS fP fI fU fR fO fA fH fG fN aS qL qR qP : Nat → Int32} {post : SX → Prop} {g pq c : Nat} (eg : xno = nI g) (hg : g < 600) (eP : fP g = nI pq) (hpq : pq < 40) (eO : pO pq = nI 31) (ec : xco = nI c) (hc : c < 600) {s κ : Nat} (ea : xan = nI s) (hs : s < 653) (eK : K s = nI κ) (hκ : κ ≤ 5) (h2 : 2 ≤ κ → post (xst, xow, xin, xpa, xfi, xfr, xno, 1, 2, xkn, xen, (nI (c + 1)), xrm, xac, K, N, Z, D, Im, W, P, vS, pO, pX, pI, fS, fP, fI, fU, fR, fO, fA, fH, fG, fN, aS, qL, qR, qP)) (h1 : κ < 2 → post (xst, xow, xin, xpa, xfi, xfr, xno, 1, 1, xkn, xen, (nI (c + 1)), xrm, xac, K, N, Z, D, Im, W, P, vS, pO, pX, pI, fS, fP, fI, fU, fR, fO, fA, fH, fG, fN, aS, qL, qR, qP)) : wpX_makeCounted post (xst, xow, xin, xpa, xfi, xfr, xno, xsi, xan, xkn, xen, xco, xrm, xac, K, N, Z, D, Im, W, P, vS, pO, pX, pI, fS, fP, fI, fU, fR, fO, fA, fH, fG, fN, aS, qL, qR, qP) := by
  subst eg
  have eg' : (nI g).toNatClampNeg = g := nI_clamp (by omega)
  have hin : vp_in (nI g) 600 := vp_in_nI hg (by omega)
  have hiq : vp_in (nI pq) 40 := vp_in_nI hpq (by omega)
  have k64 : wX_makeCounted_64 post xan xst xow xin xpa xfi xfr (nI g) xsi xan xkn xen (nI (c + 1)) xrm xac K N Z D Im W P vS pO pX pI fS fP fI fU fR fO fA fH fG fN aS qL qR qP := by
    unfold wX_makeCounted_64
    rw [ea]
    refine xr_isEmpty hs eK hκ (fun w => br_t rfl ?_) (fun w => br_f (by decide) ?_)
    · unfold wX_makeCounted_82
      exact xr_giveTruth (fun z => absurd z (by decide)) (fun _ => h2 w)
    · unfold wX_makeCounted_82
      exact xr_giveTruth (fun _ => h1 w) (fun z => absurd rfl z)
  unfold wpX_makeCounted
  dsimp only
  refine xr_counts ec hc ?_
  dsimp only
  rw [eg', eP, nI_clamp (show pq < 2 ^ 31 by omega), eO]
  refine br_f (by decide) ⟨hin, hiq, nm_e ⟨hin, nm_e ?_⟩⟩
  exact br_f (by decide) (br_f (by decide) (br_t rfl (k64)))
theorem xk_28 {xst xow xin xpa xfi xfr xno xsi xan xkn xen xco xrm xac : Int32} {K N Z D Im W P vS pO pX pI fS fP fI fU fR fO fA fH fG fN aS qL qR qP : Nat → Int32} {post : SX → Prop} {g pq c : Nat} (eg : xno = nI g) (hg : g < 600) (eP : fP g = nI pq) (hpq : pq < 40) (eO : pO pq = nI 28) (ec : xco = nI c) (hc : c < 600) {V : Nat → Prop} {s t : Nat} (hx : vv_ox V K N Z D Im W P) (eh : fH g = nI s) (ea : xan = nI t) (hs : V s) (ht : V t) (h2 : ∀ qL' qR' qP' : Nat → Int32, oo_c (oo_h K N) Z P 4 s t < 0 → post (xst, xow, xin, xpa, xfi, xfr, xno, 1, 2, xkn, xen, (nI (c + 1)), xrm, xac, K, N, Z, D, Im, W, P, vS, pO, pX, pI, fS, fP, fI, fU, fR, fO, fA, fH, fG, fN, aS, qL', qR', qP')) (h1 : ∀ qL' qR' qP' : Nat → Int32, ¬ oo_c (oo_h K N) Z P 4 s t < 0 → post (xst, xow, xin, xpa, xfi, xfr, xno, 1, 1, xkn, xen, (nI (c + 1)), xrm, xac, K, N, Z, D, Im, W, P, vS, pO, pX, pI, fS, fP, fI, fU, fR, fO, fA, fH, fG, fN, aS, qL', qR', qP')) : wpX_makeCounted post (xst, xow, xin, xpa, xfi, xfr, xno, xsi, xan, xkn, xen, xco, xrm, xac, K, N, Z, D, Im, W, P, vS, pO, pX, pI, fS, fP, fI, fU, fR, fO, fA, fH, fG, fN, aS, qL, qR, qP) := by
  subst eg
  have eg' : (nI g).toNatClampNeg = g := nI_clamp (by omega)
  have hin : vp_in (nI g) 600 := vp_in_nI hg (by omega)
  have hiq : vp_in (nI pq) 40 := vp_in_nI hpq (by omega)
  have k100 : wX_makeCounted_100 post (nI 28) (fH g) xan xst xow xin xpa xfi xfr (nI g) xsi xan xkn xen (nI (c + 1)) xrm xac K N Z D Im W P vS pO pX pI fS fP fI fU fR fO fA fH fG fN aS qL qR qP := by
    unfold wX_makeCounted_100
    rw [eh, ea]
    refine xm_compared hx hs ht (fun r qL' qR' qP' hsm => ?_)
    refine br_t rfl (br_c (fun z => ?_) (fun z => ?_))
    · unfold wX_makeCounted_138
      exact xr_giveTruth (fun _ => h1 _ _ _ (fun w => Int32.not_lt.mpr z (hsm.2.mpr w))) (fun z => absurd rfl z)
    · unfold wX_makeCounted_138
      exact xr_giveTruth (fun z => absurd z (by decide)) (fun _ => h2 _ _ _ (hsm.2.mp (Int32.not_le.mp z)))
  unfold wpX_makeCounted
  dsimp only
  refine xr_counts ec hc ?_
  dsimp only
  rw [eg', eP, nI_clamp (show pq < 2 ^ 31 by omega), eO]
  refine br_f (by decide) ⟨hin, hiq, nm_e ⟨hin, nm_e ?_⟩⟩
  exact br_f (by decide) (br_f (by decide) (br_f (by decide) (br_t rfl (k100))))
theorem xk_29 {xst xow xin xpa xfi xfr xno xsi xan xkn xen xco xrm xac : Int32} {K N Z D Im W P vS pO pX pI fS fP fI fU fR fO fA fH fG fN aS qL qR qP : Nat → Int32} {post : SX → Prop} {g pq c : Nat} (eg : xno = nI g) (hg : g < 600) (eP : fP g = nI pq) (hpq : pq < 40) (eO : pO pq = nI 29) (ec : xco = nI c) (hc : c < 600) {V : Nat → Prop} {s t : Nat} (hx : vv_ox V K N Z D Im W P) (eh : fH g = nI s) (ea : xan = nI t) (hs : V s) (ht : V t) (h2 : ∀ qL' qR' qP' : Nat → Int32, oo_c (oo_h K N) Z P 4 s t = 0 → post (xst, xow, xin, xpa, xfi, xfr, xno, 1, 2, xkn, xen, (nI (c + 1)), xrm, xac, K, N, Z, D, Im, W, P, vS, pO, pX, pI, fS, fP, fI, fU, fR, fO, fA, fH, fG, fN, aS, qL', qR', qP')) (h1 : ∀ qL' qR' qP' : Nat → Int32, ¬ oo_c (oo_h K N) Z P 4 s t = 0 → post (xst, xow, xin, xpa, xfi, xfr, xno, 1, 1, xkn, xen, (nI (c + 1)), xrm, xac, K, N, Z, D, Im, W, P, vS, pO, pX, pI, fS, fP, fI, fU, fR, fO, fA, fH, fG, fN, aS, qL', qR', qP')) : wpX_makeCounted post (xst, xow, xin, xpa, xfi, xfr, xno, xsi, xan, xkn, xen, xco, xrm, xac, K, N, Z, D, Im, W, P, vS, pO, pX, pI, fS, fP, fI, fU, fR, fO, fA, fH, fG, fN, aS, qL, qR, qP) := by
  subst eg
  have eg' : (nI g).toNatClampNeg = g := nI_clamp (by omega)
  have hin : vp_in (nI g) 600 := vp_in_nI hg (by omega)
  have hiq : vp_in (nI pq) 40 := vp_in_nI hpq (by omega)
  have k100 : wX_makeCounted_100 post (nI 29) (fH g) xan xst xow xin xpa xfi xfr (nI g) xsi xan xkn xen (nI (c + 1)) xrm xac K N Z D Im W P vS pO pX pI fS fP fI fU fR fO fA fH fG fN aS qL qR qP := by
    unfold wX_makeCounted_100
    rw [eh, ea]
    refine xm_compared hx hs ht (fun r qL' qR' qP' hsm => ?_)
    refine br_f (by decide) (br_c (fun z => ?_) (fun z => ?_))
    · unfold wX_makeCounted_138
      exact xr_giveTruth (fun z => absurd z (by decide)) (fun _ => h2 _ _ _ (hsm.1.mp z))
    · unfold wX_makeCounted_138
      exact xr_giveTruth (fun _ => h1 _ _ _ (fun w => z (hsm.1.mpr w))) (fun z => absurd rfl z)
  unfold wpX_makeCounted
  dsimp only
  refine xr_counts ec hc ?_
  dsimp only
  rw [eg', eP, nI_clamp (show pq < 2 ^ 31 by omega), eO]
  refine br_f (by decide) ⟨hin, hiq, nm_e ⟨hin, nm_e ?_⟩⟩
  exact br_f (by decide) (br_f (by decide) (br_f (by decide) (br_f (by decide) (br_t rfl (k100)))))
theorem xk_24 {xst xow xin xpa xfi xfr xno xsi xan xkn xen xco xrm xac : Int32} {K N Z D Im W P vS pO pX pI fS fP fI fU fR fO fA fH fG fN aS qL qR qP : Nat → Int32} {xst' xow' xin' xpa' xfi' xfr' xno' xsi' xan' xkn' xen' xco' xrm' xac' : Int32} {K' N' Z' D' Im' W' P' vS' pO' pX' pI' fS' fP' fI' fU' fR' fO' fA' fH' fG' fN' aS' qL' qR' qP' : Nat → Int32} {post : SX → Prop} {g pq c : Nat} (eg : xno = nI g) (hg : g < 600) (eP : fP g = nI pq) (hpq : pq < 40) (eO : pO pq = nI 24) (ec : xco = nI c) (hc : c < 600) {s t κ κ' : Nat} (eh : fH g = nI s) (ea : xan = nI t) (hs : s < 653) (ht : t < 653) (eK : K s = nI κ) (eK' : K t = nI κ') (hκ : κ ≤ 5) (hκ' : κ' ≤ 5) (hN : κ = 3 → κ' = 3 → ∀ Q : SX → Prop, Q (xst', xow', xin', xpa', xfi', xfr', xno', xsi', xan', xkn', xen', xco', xrm', xac', K', N', Z', D', Im', W', P', vS', pO', pX', pI', fS', fP', fI', fU', fR', fO', fA', fH', fG', fN', aS', qL', qR', qP') → wpX_makeNumber Q (xst, xow, xin, xpa, xfi, xfr, xno, xsi, xan, xkn, xen, (nI (c + 1)), xrm, xac, K, N, Z, D, Im, W, P, vS, pO, pX, pI, fS, fP, fI, fU, fR, fO, fA, fH, fG, fN, aS, qL, qR, qP) (nI 24) (N s) (N t)) (hW : 24 = 24 → κ = 4 → κ' = 4 → ∀ Q : SX → Prop, Q (xst', xow', xin', xpa', xfi', xfr', xno', xsi', xan', xkn', xen', xco', xrm', xac', K', N', Z', D', Im', W', P', vS', pO', pX', pI', fS', fP', fI', fU', fR', fO', fA', fH', fG', fN', aS', qL', qR', qP') → wpX_makeWithout Q (xst, xow, xin, xpa, xfi, xfr, xno, xsi, xan, xkn, xen, (nI (c + 1)), xrm, xac, K, N, Z, D, Im, W, P, vS, pO, pX, pI, fS, fP, fI, fU, fR, fO, fA, fH, fG, fN, aS, qL, qR, qP) (nI s) (nI t)) (he : ¬ (κ = 3 ∧ κ' = 3) → ¬ (24 = 24 ∧ κ = 4 ∧ κ' = 4) → post (xst, xow, xin, xpa, xfi, xfr, xno, 3, xan, xkn, xen, (nI (c + 1)), xrm, xac, K, N, Z, D, Im, W, P, vS, pO, pX, pI, fS, fP, fI, fU, fR, fO, fA, fH, fG, fN, aS, qL, qR, qP)) (hp : (κ = 3 ∧ κ' = 3) ∨ (24 = 24 ∧ κ = 4 ∧ κ' = 4) → post (xst', xow', xin', xpa', xfi', xfr', xno', xsi', xan', xkn', xen', xco', xrm', xac', K', N', Z', D', Im', W', P', vS', pO', pX', pI', fS', fP', fI', fU', fR', fO', fA', fH', fG', fN', aS', qL', qR', qP')) : wpX_makeCounted post (xst, xow, xin, xpa, xfi, xfr, xno, xsi, xan, xkn, xen, xco, xrm, xac, K, N, Z, D, Im, W, P, vS, pO, pX, pI, fS, fP, fI, fU, fR, fO, fA, fH, fG, fN, aS, qL, qR, qP) := by
  subst eg
  have eg' : (nI g).toNatClampNeg = g := nI_clamp (by omega)
  have hin : vp_in (nI g) 600 := vp_in_nI hg (by omega)
  have hiq : vp_in (nI pq) 40 := vp_in_nI hpq (by omega)
  have his : vp_in (nI s) 653 := vp_in_nI hs (by omega)
  have hit : vp_in (nI t) 653 := vp_in_nI ht (by omega)
  have es : (nI s).toNatClampNeg = s := nI_clamp (by omega)
  have et : (nI t).toNatClampNeg = t := nI_clamp (by omega)
  subst ea
  have k199 : ¬ (κ = 3 ∧ κ' = 3) → wX_makeCounted_199 post (nI 24) (nI s) (nI t) xst xow xin xpa xfi xfr (nI g) xsi (nI t) xkn xen (nI (c + 1)) xrm xac K N Z D Im W P vS pO pX pI fS fP fI fU fR fO fA fH fG fN aS qL qR qP := by
    intro hn
    unfold wX_makeCounted_199
    rw [es, et, eK, eK']
    exact br_t rfl ⟨his, pk_eq κ 4 (fun z => ⟨hit, pk_eq κ' 4 (fun z2 => hW rfl z z2 _ (hp (Or.inr ⟨rfl, z, z2⟩))) (fun z2 => he hn (by omega))⟩) (fun z => he hn (by omega))⟩
  unfold wpX_makeCounted
  dsimp only
  refine xr_counts ec hc ?_
  dsimp only
  rw [eg', eP, nI_clamp (show pq < 2 ^ 31 by omega), eO]
  refine br_f (by decide) ⟨hin, hiq, nm_e ⟨hin, nm_e ?_⟩⟩
  rw [eh, es, et, eK, eK']
  exact br_f (by decide) (br_f (by decide) (br_f (by decide) (br_f (by decide) (br_f (by decide) (br_f (by decide) (⟨his, pk_eq κ 3 (fun z => ⟨hit, pk_eq κ' 3 (fun z2 => ⟨his, hit, hN z z2 _ (hp (Or.inl ⟨z, z2⟩))⟩) (fun z2 => k199 (by omega))⟩) (fun z => k199 (by omega))⟩))))))
theorem xk_25 {xst xow xin xpa xfi xfr xno xsi xan xkn xen xco xrm xac : Int32} {K N Z D Im W P vS pO pX pI fS fP fI fU fR fO fA fH fG fN aS qL qR qP : Nat → Int32} {xst' xow' xin' xpa' xfi' xfr' xno' xsi' xan' xkn' xen' xco' xrm' xac' : Int32} {K' N' Z' D' Im' W' P' vS' pO' pX' pI' fS' fP' fI' fU' fR' fO' fA' fH' fG' fN' aS' qL' qR' qP' : Nat → Int32} {post : SX → Prop} {g pq c : Nat} (eg : xno = nI g) (hg : g < 600) (eP : fP g = nI pq) (hpq : pq < 40) (eO : pO pq = nI 25) (ec : xco = nI c) (hc : c < 600) {s t κ κ' : Nat} (eh : fH g = nI s) (ea : xan = nI t) (hs : s < 653) (ht : t < 653) (eK : K s = nI κ) (eK' : K t = nI κ') (hκ : κ ≤ 5) (hκ' : κ' ≤ 5) (hN : κ = 3 → κ' = 3 → ∀ Q : SX → Prop, Q (xst', xow', xin', xpa', xfi', xfr', xno', xsi', xan', xkn', xen', xco', xrm', xac', K', N', Z', D', Im', W', P', vS', pO', pX', pI', fS', fP', fI', fU', fR', fO', fA', fH', fG', fN', aS', qL', qR', qP') → wpX_makeNumber Q (xst, xow, xin, xpa, xfi, xfr, xno, xsi, xan, xkn, xen, (nI (c + 1)), xrm, xac, K, N, Z, D, Im, W, P, vS, pO, pX, pI, fS, fP, fI, fU, fR, fO, fA, fH, fG, fN, aS, qL, qR, qP) (nI 25) (N s) (N t)) (hW : 25 = 24 → κ = 4 → κ' = 4 → ∀ Q : SX → Prop, Q (xst', xow', xin', xpa', xfi', xfr', xno', xsi', xan', xkn', xen', xco', xrm', xac', K', N', Z', D', Im', W', P', vS', pO', pX', pI', fS', fP', fI', fU', fR', fO', fA', fH', fG', fN', aS', qL', qR', qP') → wpX_makeWithout Q (xst, xow, xin, xpa, xfi, xfr, xno, xsi, xan, xkn, xen, (nI (c + 1)), xrm, xac, K, N, Z, D, Im, W, P, vS, pO, pX, pI, fS, fP, fI, fU, fR, fO, fA, fH, fG, fN, aS, qL, qR, qP) (nI s) (nI t)) (he : ¬ (κ = 3 ∧ κ' = 3) → ¬ (25 = 24 ∧ κ = 4 ∧ κ' = 4) → post (xst, xow, xin, xpa, xfi, xfr, xno, 3, xan, xkn, xen, (nI (c + 1)), xrm, xac, K, N, Z, D, Im, W, P, vS, pO, pX, pI, fS, fP, fI, fU, fR, fO, fA, fH, fG, fN, aS, qL, qR, qP)) (hp : (κ = 3 ∧ κ' = 3) ∨ (25 = 24 ∧ κ = 4 ∧ κ' = 4) → post (xst', xow', xin', xpa', xfi', xfr', xno', xsi', xan', xkn', xen', xco', xrm', xac', K', N', Z', D', Im', W', P', vS', pO', pX', pI', fS', fP', fI', fU', fR', fO', fA', fH', fG', fN', aS', qL', qR', qP')) : wpX_makeCounted post (xst, xow, xin, xpa, xfi, xfr, xno, xsi, xan, xkn, xen, xco, xrm, xac, K, N, Z, D, Im, W, P, vS, pO, pX, pI, fS, fP, fI, fU, fR, fO, fA, fH, fG, fN, aS, qL, qR, qP) := by
  subst eg
  have eg' : (nI g).toNatClampNeg = g := nI_clamp (by omega)
  have hin : vp_in (nI g) 600 := vp_in_nI hg (by omega)
  have hiq : vp_in (nI pq) 40 := vp_in_nI hpq (by omega)
  have his : vp_in (nI s) 653 := vp_in_nI hs (by omega)
  have hit : vp_in (nI t) 653 := vp_in_nI ht (by omega)
  have es : (nI s).toNatClampNeg = s := nI_clamp (by omega)
  have et : (nI t).toNatClampNeg = t := nI_clamp (by omega)
  subst ea
  have k199 : ¬ (κ = 3 ∧ κ' = 3) → wX_makeCounted_199 post (nI 25) (nI s) (nI t) xst xow xin xpa xfi xfr (nI g) xsi (nI t) xkn xen (nI (c + 1)) xrm xac K N Z D Im W P vS pO pX pI fS fP fI fU fR fO fA fH fG fN aS qL qR qP := by
    intro hn
    unfold wX_makeCounted_199
    rw [es, et, eK, eK']
    exact br_f (by decide) (he hn (by omega))
  unfold wpX_makeCounted
  dsimp only
  refine xr_counts ec hc ?_
  dsimp only
  rw [eg', eP, nI_clamp (show pq < 2 ^ 31 by omega), eO]
  refine br_f (by decide) ⟨hin, hiq, nm_e ⟨hin, nm_e ?_⟩⟩
  rw [eh, es, et, eK, eK']
  exact br_f (by decide) (br_f (by decide) (br_f (by decide) (br_f (by decide) (br_f (by decide) (br_f (by decide) (⟨his, pk_eq κ 3 (fun z => ⟨hit, pk_eq κ' 3 (fun z2 => ⟨his, hit, hN z z2 _ (hp (Or.inl ⟨z, z2⟩))⟩) (fun z2 => k199 (by omega))⟩) (fun z => k199 (by omega))⟩))))))
theorem xk_26 {xst xow xin xpa xfi xfr xno xsi xan xkn xen xco xrm xac : Int32} {K N Z D Im W P vS pO pX pI fS fP fI fU fR fO fA fH fG fN aS qL qR qP : Nat → Int32} {xst' xow' xin' xpa' xfi' xfr' xno' xsi' xan' xkn' xen' xco' xrm' xac' : Int32} {K' N' Z' D' Im' W' P' vS' pO' pX' pI' fS' fP' fI' fU' fR' fO' fA' fH' fG' fN' aS' qL' qR' qP' : Nat → Int32} {post : SX → Prop} {g pq c : Nat} (eg : xno = nI g) (hg : g < 600) (eP : fP g = nI pq) (hpq : pq < 40) (eO : pO pq = nI 26) (ec : xco = nI c) (hc : c < 600) {s t κ κ' : Nat} (eh : fH g = nI s) (ea : xan = nI t) (hs : s < 653) (ht : t < 653) (eK : K s = nI κ) (eK' : K t = nI κ') (hκ : κ ≤ 5) (hκ' : κ' ≤ 5) (hN : κ = 3 → κ' = 3 → ∀ Q : SX → Prop, Q (xst', xow', xin', xpa', xfi', xfr', xno', xsi', xan', xkn', xen', xco', xrm', xac', K', N', Z', D', Im', W', P', vS', pO', pX', pI', fS', fP', fI', fU', fR', fO', fA', fH', fG', fN', aS', qL', qR', qP') → wpX_makeNumber Q (xst, xow, xin, xpa, xfi, xfr, xno, xsi, xan, xkn, xen, (nI (c + 1)), xrm, xac, K, N, Z, D, Im, W, P, vS, pO, pX, pI, fS, fP, fI, fU, fR, fO, fA, fH, fG, fN, aS, qL, qR, qP) (nI 26) (N s) (N t)) (hW : 26 = 24 → κ = 4 → κ' = 4 → ∀ Q : SX → Prop, Q (xst', xow', xin', xpa', xfi', xfr', xno', xsi', xan', xkn', xen', xco', xrm', xac', K', N', Z', D', Im', W', P', vS', pO', pX', pI', fS', fP', fI', fU', fR', fO', fA', fH', fG', fN', aS', qL', qR', qP') → wpX_makeWithout Q (xst, xow, xin, xpa, xfi, xfr, xno, xsi, xan, xkn, xen, (nI (c + 1)), xrm, xac, K, N, Z, D, Im, W, P, vS, pO, pX, pI, fS, fP, fI, fU, fR, fO, fA, fH, fG, fN, aS, qL, qR, qP) (nI s) (nI t)) (he : ¬ (κ = 3 ∧ κ' = 3) → ¬ (26 = 24 ∧ κ = 4 ∧ κ' = 4) → post (xst, xow, xin, xpa, xfi, xfr, xno, 3, xan, xkn, xen, (nI (c + 1)), xrm, xac, K, N, Z, D, Im, W, P, vS, pO, pX, pI, fS, fP, fI, fU, fR, fO, fA, fH, fG, fN, aS, qL, qR, qP)) (hp : (κ = 3 ∧ κ' = 3) ∨ (26 = 24 ∧ κ = 4 ∧ κ' = 4) → post (xst', xow', xin', xpa', xfi', xfr', xno', xsi', xan', xkn', xen', xco', xrm', xac', K', N', Z', D', Im', W', P', vS', pO', pX', pI', fS', fP', fI', fU', fR', fO', fA', fH', fG', fN', aS', qL', qR', qP')) : wpX_makeCounted post (xst, xow, xin, xpa, xfi, xfr, xno, xsi, xan, xkn, xen, xco, xrm, xac, K, N, Z, D, Im, W, P, vS, pO, pX, pI, fS, fP, fI, fU, fR, fO, fA, fH, fG, fN, aS, qL, qR, qP) := by
  subst eg
  have eg' : (nI g).toNatClampNeg = g := nI_clamp (by omega)
  have hin : vp_in (nI g) 600 := vp_in_nI hg (by omega)
  have hiq : vp_in (nI pq) 40 := vp_in_nI hpq (by omega)
  have his : vp_in (nI s) 653 := vp_in_nI hs (by omega)
  have hit : vp_in (nI t) 653 := vp_in_nI ht (by omega)
  have es : (nI s).toNatClampNeg = s := nI_clamp (by omega)
  have et : (nI t).toNatClampNeg = t := nI_clamp (by omega)
  subst ea
  have k199 : ¬ (κ = 3 ∧ κ' = 3) → wX_makeCounted_199 post (nI 26) (nI s) (nI t) xst xow xin xpa xfi xfr (nI g) xsi (nI t) xkn xen (nI (c + 1)) xrm xac K N Z D Im W P vS pO pX pI fS fP fI fU fR fO fA fH fG fN aS qL qR qP := by
    intro hn
    unfold wX_makeCounted_199
    rw [es, et, eK, eK']
    exact br_f (by decide) (he hn (by omega))
  unfold wpX_makeCounted
  dsimp only
  refine xr_counts ec hc ?_
  dsimp only
  rw [eg', eP, nI_clamp (show pq < 2 ^ 31 by omega), eO]
  refine br_f (by decide) ⟨hin, hiq, nm_e ⟨hin, nm_e ?_⟩⟩
  rw [eh, es, et, eK, eK']
  exact br_f (by decide) (br_f (by decide) (br_f (by decide) (br_f (by decide) (br_f (by decide) (br_f (by decide) (⟨his, pk_eq κ 3 (fun z => ⟨hit, pk_eq κ' 3 (fun z2 => ⟨his, hit, hN z z2 _ (hp (Or.inl ⟨z, z2⟩))⟩) (fun z2 => k199 (by omega))⟩) (fun z => k199 (by omega))⟩))))))
theorem xk_27 {xst xow xin xpa xfi xfr xno xsi xan xkn xen xco xrm xac : Int32} {K N Z D Im W P vS pO pX pI fS fP fI fU fR fO fA fH fG fN aS qL qR qP : Nat → Int32} {xst' xow' xin' xpa' xfi' xfr' xno' xsi' xan' xkn' xen' xco' xrm' xac' : Int32} {K' N' Z' D' Im' W' P' vS' pO' pX' pI' fS' fP' fI' fU' fR' fO' fA' fH' fG' fN' aS' qL' qR' qP' : Nat → Int32} {post : SX → Prop} {g pq c : Nat} (eg : xno = nI g) (hg : g < 600) (eP : fP g = nI pq) (hpq : pq < 40) (eO : pO pq = nI 27) (ec : xco = nI c) (hc : c < 600) {s t κ κ' : Nat} (eh : fH g = nI s) (ea : xan = nI t) (hs : s < 653) (ht : t < 653) (eK : K s = nI κ) (eK' : K t = nI κ') (hκ : κ ≤ 5) (hκ' : κ' ≤ 5) (hN : κ = 3 → κ' = 3 → ∀ Q : SX → Prop, Q (xst', xow', xin', xpa', xfi', xfr', xno', xsi', xan', xkn', xen', xco', xrm', xac', K', N', Z', D', Im', W', P', vS', pO', pX', pI', fS', fP', fI', fU', fR', fO', fA', fH', fG', fN', aS', qL', qR', qP') → wpX_makeNumber Q (xst, xow, xin, xpa, xfi, xfr, xno, xsi, xan, xkn, xen, (nI (c + 1)), xrm, xac, K, N, Z, D, Im, W, P, vS, pO, pX, pI, fS, fP, fI, fU, fR, fO, fA, fH, fG, fN, aS, qL, qR, qP) (nI 27) (N s) (N t)) (hW : 27 = 24 → κ = 4 → κ' = 4 → ∀ Q : SX → Prop, Q (xst', xow', xin', xpa', xfi', xfr', xno', xsi', xan', xkn', xen', xco', xrm', xac', K', N', Z', D', Im', W', P', vS', pO', pX', pI', fS', fP', fI', fU', fR', fO', fA', fH', fG', fN', aS', qL', qR', qP') → wpX_makeWithout Q (xst, xow, xin, xpa, xfi, xfr, xno, xsi, xan, xkn, xen, (nI (c + 1)), xrm, xac, K, N, Z, D, Im, W, P, vS, pO, pX, pI, fS, fP, fI, fU, fR, fO, fA, fH, fG, fN, aS, qL, qR, qP) (nI s) (nI t)) (he : ¬ (κ = 3 ∧ κ' = 3) → ¬ (27 = 24 ∧ κ = 4 ∧ κ' = 4) → post (xst, xow, xin, xpa, xfi, xfr, xno, 3, xan, xkn, xen, (nI (c + 1)), xrm, xac, K, N, Z, D, Im, W, P, vS, pO, pX, pI, fS, fP, fI, fU, fR, fO, fA, fH, fG, fN, aS, qL, qR, qP)) (hp : (κ = 3 ∧ κ' = 3) ∨ (27 = 24 ∧ κ = 4 ∧ κ' = 4) → post (xst', xow', xin', xpa', xfi', xfr', xno', xsi', xan', xkn', xen', xco', xrm', xac', K', N', Z', D', Im', W', P', vS', pO', pX', pI', fS', fP', fI', fU', fR', fO', fA', fH', fG', fN', aS', qL', qR', qP')) : wpX_makeCounted post (xst, xow, xin, xpa, xfi, xfr, xno, xsi, xan, xkn, xen, xco, xrm, xac, K, N, Z, D, Im, W, P, vS, pO, pX, pI, fS, fP, fI, fU, fR, fO, fA, fH, fG, fN, aS, qL, qR, qP) := by
  subst eg
  have eg' : (nI g).toNatClampNeg = g := nI_clamp (by omega)
  have hin : vp_in (nI g) 600 := vp_in_nI hg (by omega)
  have hiq : vp_in (nI pq) 40 := vp_in_nI hpq (by omega)
  have his : vp_in (nI s) 653 := vp_in_nI hs (by omega)
  have hit : vp_in (nI t) 653 := vp_in_nI ht (by omega)
  have es : (nI s).toNatClampNeg = s := nI_clamp (by omega)
  have et : (nI t).toNatClampNeg = t := nI_clamp (by omega)
  subst ea
  have k199 : ¬ (κ = 3 ∧ κ' = 3) → wX_makeCounted_199 post (nI 27) (nI s) (nI t) xst xow xin xpa xfi xfr (nI g) xsi (nI t) xkn xen (nI (c + 1)) xrm xac K N Z D Im W P vS pO pX pI fS fP fI fU fR fO fA fH fG fN aS qL qR qP := by
    intro hn
    unfold wX_makeCounted_199
    rw [es, et, eK, eK']
    exact br_f (by decide) (he hn (by omega))
  unfold wpX_makeCounted
  dsimp only
  refine xr_counts ec hc ?_
  dsimp only
  rw [eg', eP, nI_clamp (show pq < 2 ^ 31 by omega), eO]
  refine br_f (by decide) ⟨hin, hiq, nm_e ⟨hin, nm_e ?_⟩⟩
  rw [eh, es, et, eK, eK']
  exact br_f (by decide) (br_f (by decide) (br_f (by decide) (br_f (by decide) (br_f (by decide) (br_f (by decide) (⟨his, pk_eq κ 3 (fun z => ⟨hit, pk_eq κ' 3 (fun z2 => ⟨his, hit, hN z z2 _ (hp (Or.inl ⟨z, z2⟩))⟩) (fun z2 => k199 (by omega))⟩) (fun z => k199 (by omega))⟩))))))
end
section
/-! ===== Y: leaves ===== -/
theorem yl_m : ∀ x, x < 8 → (nI (2 ^ x) - 1).toBitVec.toNat = 2 ^ x - 1 := by decide +kernel
theorem yl_pc : ∀ m, m < 256 → ∀ x, x < 8 → vv_pc (m % 2 ^ x) 10 = vv_pc m x := by decide +kernel
theorem yl_fieldOf {yma ypo yhe yvm : Int32} {yin : Int64} {yfi yde yap yas yto : Int32} {yan : Int64} {yco yti yna yac yen yic : Int32} {o l kS d : Nat → Int32} {pl ys : Nat → Int64} {yk yn yp yf yo : Nat → Int32} {yi : Nat → Int64} {yw ya y1 y2 : Nat → Int32} {yK : Nat → Int64} {yW : Nat → Int32} {yL : Nat → Int64} {yq nm : Nat → Int32} {nv : Nat → Int64} {no : Nat → Int32} {yA lf rt : Nat → Int64} {iK iN : Nat → Int32} {post : Int64 → Prop} {κ j m x oa : Nat} (hj : j < 760) (ek : kS j = nI m) (hm : m < 256) (hx : x < 8) (eo : o j = nI oa) (ho : oa + 10 ≤ 8210) (h1 : m / 2 ^ x % 2 = 1 → oa + vv_pc m x < 8200 ∧ post (pl (oa + vv_pc m x))) (h0 : m / 2 ^ x % 2 = 0 → post 0) : wpY_fieldOf post (yma, ypo, yhe, yvm, yin, yfi, yde, yap, yas, yto, yan, yco, yti, yna, yac, yen, yic, o, l, kS, d, pl, ys, yk, yn, yp, yf, yo, yi, yw, ya, y1, y2, yK, yW, yL, yq, nm, nv, no, yA, lf, rt, iK, iN) (yy_t κ (nI j)) (nI x) := by
  unfold wpY_fieldOf
  dsimp only
  rw [yy_xt, nI_clamp (show j < 2 ^ 31 by omega), ek]
  refine ⟨vp_in_nI hj (by omega), nm_e ?_⟩
  rw [kb_bit (by omega) (by omega), xk_1shl hx]
  refine pk_eq (m / 2 ^ x % 2) 1 (fun z => ?_) (fun z => h0 (by omega))
  obtain ⟨b1, b2⟩ := h1 z
  rw [pk_andN (m := nI (2 ^ x) - 1) (by omega) x (yl_m x hx)]
  refine ym_bits (Nat.lt_of_le_of_lt (Nat.mod_le _ _) (by omega)) ?_
  rw [yl_pc m hm x hx]
  exact ym_place hj eo b1 b2
theorem yl_0 {yma ypo yhe yvm : Int32} {yin : Int64} {yfi yde yap yas yto : Int32} {yan : Int64} {yco yti yna yac yen yic : Int32} {o l kS d : Nat → Int32} {pl ys : Nat → Int64} {yk yn yp yf yo : Nat → Int32} {yi : Nat → Int64} {yw ya y1 y2 : Nat → Int32} {yK : Nat → Int64} {yW : Nat → Int32} {yL : Nat → Int64} {yq nm : Nat → Int32} {nv : Nat → Int64} {no : Nat → Int32} {yA lf rt : Nat → Int64} {iK iN : Nat → Int32} {post : SY → Prop} {g a κ : Nat} {x px : Int32} (hg : g < 600) (ew : yi g = yy_t κ x) (hκ : κ ≤ 5) (ea : yas = nI (a + 1)) (hp : post (yma, ypo, yhe, yvm, yin, yfi, yde, yap, (nI a), 0, (yy_t κ x), yco, yti, yna, yac, yen, yic, o, l, kS, d, pl, ys, yk, yn, yp, yf, yo, yi, yw, ya, y1, y2, yK, yW, yL, yq, nm, nv, no, yA, lf, rt, iK, iN)) : wpY_tellLeaf post (yma, ypo, yhe, yvm, yin, yfi, yde, yap, yas, yto, yan, yco, yti, yna, yac, yen, yic, o, l, kS, d, pl, ys, yk, yn, yp, yf, yo, yi, yw, ya, y1, y2, yK, yW, yL, yq, nm, nv, no, yA, lf, rt, iK, iN) (nI g) (nI 0) px := by
  have eg' : (nI g).toNatClampNeg = g := nI_clamp (by omega)
  have hin : vp_in (nI g) 601 := vp_in_nI (by omega) (by omega)
  unfold wpY_tellLeaf
  dsimp only
  rw [eg', ew]
  refine ⟨hin, nm_e (ym_sort (by omega) ?_)⟩
  refine br_f (by decide) (br_t rfl ?_)
  unfold wY_tellLeaf_54
  exact yr_tell ea hp
theorem yl_1 {yma ypo yhe yvm : Int32} {yin : Int64} {yfi yde yap yas yto : Int32} {yan : Int64} {yco yti yna yac yen yic : Int32} {o l kS d : Nat → Int32} {pl ys : Nat → Int64} {yk yn yp yf yo : Nat → Int32} {yi : Nat → Int64} {yw ya y1 y2 : Nat → Int32} {yK : Nat → Int64} {yW : Nat → Int32} {yL : Nat → Int64} {yq nm : Nat → Int32} {nv : Nat → Int64} {no : Nat → Int32} {yA lf rt : Nat → Int64} {iK iN : Nat → Int32} {post : SY → Prop} {g a κ : Nat} {x px : Int32} (hg : g < 600) (ew : yi g = yy_t κ x) (hκ : κ ≤ 5) (ea : yas = nI (a + 1)) (hp : post (yma, ypo, yhe, yvm, yin, yfi, yde, yap, (nI a), 0, (yy_t 0 0), yco, yti, yna, yac, yen, yic, o, l, kS, d, pl, ys, yk, yn, yp, yf, yo, yi, yw, ya, y1, y2, yK, yW, yL, yq, nm, nv, no, yA, lf, rt, iK, iN)) : wpY_tellLeaf post (yma, ypo, yhe, yvm, yin, yfi, yde, yap, yas, yto, yan, yco, yti, yna, yac, yen, yic, o, l, kS, d, pl, ys, yk, yn, yp, yf, yo, yi, yw, ya, y1, y2, yK, yW, yL, yq, nm, nv, no, yA, lf, rt, iK, iN) (nI g) (nI 1) px := by
  have eg' : (nI g).toNatClampNeg = g := nI_clamp (by omega)
  have hin : vp_in (nI g) 601 := vp_in_nI (by omega) (by omega)
  unfold wpY_tellLeaf
  dsimp only
  rw [eg', ew]
  refine ⟨hin, nm_e (ym_sort (by omega) ?_)⟩
  refine br_f (by decide) (br_f (by decide) (br_f (by decide) ?_))
  rw [nI_pred]
  refine ym_thing (κ := 0) (by omega) ?_
  unfold wY_tellLeaf_54
  exact yr_tell ea hp
theorem yl_2 {yma ypo yhe yvm : Int32} {yin : Int64} {yfi yde yap yas yto : Int32} {yan : Int64} {yco yti yna yac yen yic : Int32} {o l kS d : Nat → Int32} {pl ys : Nat → Int64} {yk yn yp yf yo : Nat → Int32} {yi : Nat → Int64} {yw ya y1 y2 : Nat → Int32} {yK : Nat → Int64} {yW : Nat → Int32} {yL : Nat → Int64} {yq nm : Nat → Int32} {nv : Nat → Int64} {no : Nat → Int32} {yA lf rt : Nat → Int64} {iK iN : Nat → Int32} {post : SY → Prop} {g a κ : Nat} {x px : Int32} (hg : g < 600) (ew : yi g = yy_t κ x) (hκ : κ ≤ 5) (ea : yas = nI (a + 1)) (hp : post (yma, ypo, yhe, yvm, yin, yfi, yde, yap, (nI a), 0, (yy_t 1 0), yco, yti, yna, yac, yen, yic, o, l, kS, d, pl, ys, yk, yn, yp, yf, yo, yi, yw, ya, y1, y2, yK, yW, yL, yq, nm, nv, no, yA, lf, rt, iK, iN)) : wpY_tellLeaf post (yma, ypo, yhe, yvm, yin, yfi, yde, yap, yas, yto, yan, yco, yti, yna, yac, yen, yic, o, l, kS, d, pl, ys, yk, yn, yp, yf, yo, yi, yw, ya, y1, y2, yK, yW, yL, yq, nm, nv, no, yA, lf, rt, iK, iN) (nI g) (nI 2) px := by
  have eg' : (nI g).toNatClampNeg = g := nI_clamp (by omega)
  have hin : vp_in (nI g) 601 := vp_in_nI (by omega) (by omega)
  unfold wpY_tellLeaf
  dsimp only
  rw [eg', ew]
  refine ⟨hin, nm_e (ym_sort (by omega) ?_)⟩
  refine br_f (by decide) (br_f (by decide) (br_f (by decide) ?_))
  rw [nI_pred]
  refine ym_thing (κ := 1) (by omega) ?_
  unfold wY_tellLeaf_54
  exact yr_tell ea hp
theorem yl_3 {yma ypo yhe yvm : Int32} {yin : Int64} {yfi yde yap yas yto : Int32} {yan : Int64} {yco yti yna yac yen yic : Int32} {o l kS d : Nat → Int32} {pl ys : Nat → Int64} {yk yn yp yf yo : Nat → Int32} {yi : Nat → Int64} {yw ya y1 y2 : Nat → Int32} {yK : Nat → Int64} {yW : Nat → Int32} {yL : Nat → Int64} {yq nm : Nat → Int32} {nv : Nat → Int64} {no : Nat → Int32} {yA lf rt : Nat → Int64} {iK iN : Nat → Int32} {post : SY → Prop} {g a κ : Nat} {x px : Int32} (hg : g < 600) (ew : yi g = yy_t κ x) (hκ : κ ≤ 5) (ea : yas = nI (a + 1)) (hp : post (yma, ypo, yhe, yvm, yin, yfi, yde, yap, (nI a), 0, (yy_t 2 0), yco, yti, yna, yac, yen, yic, o, l, kS, d, pl, ys, yk, yn, yp, yf, yo, yi, yw, ya, y1, y2, yK, yW, yL, yq, nm, nv, no, yA, lf, rt, iK, iN)) : wpY_tellLeaf post (yma, ypo, yhe, yvm, yin, yfi, yde, yap, yas, yto, yan, yco, yti, yna, yac, yen, yic, o, l, kS, d, pl, ys, yk, yn, yp, yf, yo, yi, yw, ya, y1, y2, yK, yW, yL, yq, nm, nv, no, yA, lf, rt, iK, iN) (nI g) (nI 3) px := by
  have eg' : (nI g).toNatClampNeg = g := nI_clamp (by omega)
  have hin : vp_in (nI g) 601 := vp_in_nI (by omega) (by omega)
  unfold wpY_tellLeaf
  dsimp only
  rw [eg', ew]
  refine ⟨hin, nm_e (ym_sort (by omega) ?_)⟩
  refine br_f (by decide) (br_f (by decide) (br_f (by decide) ?_))
  rw [nI_pred]
  refine ym_thing (κ := 2) (by omega) ?_
  unfold wY_tellLeaf_54
  exact yr_tell ea hp
theorem yl_4 {yma ypo yhe yvm : Int32} {yin : Int64} {yfi yde yap yas yto : Int32} {yan : Int64} {yco yti yna yac yen yic : Int32} {o l kS d : Nat → Int32} {pl ys : Nat → Int64} {yk yn yp yf yo : Nat → Int32} {yi : Nat → Int64} {yw ya y1 y2 : Nat → Int32} {yK : Nat → Int64} {yW : Nat → Int32} {yL : Nat → Int64} {yq nm : Nat → Int32} {nv : Nat → Int64} {no : Nat → Int32} {yA lf rt : Nat → Int64} {iK iN : Nat → Int32} {post : SY → Prop} {g a κ : Nat} {x px : Int32} (hg : g < 600) (ew : yi g = yy_t κ x) (hκ : κ ≤ 5) (ea : yas = nI (a + 1)) (hp : post (yma, ypo, yhe, yvm, yin, yfi, yde, yap, (nI a), 0, (yy_t 3 px), yco, yti, yna, yac, yen, yic, o, l, kS, d, pl, ys, yk, yn, yp, yf, yo, yi, yw, ya, y1, y2, yK, yW, yL, yq, nm, nv, no, yA, lf, rt, iK, iN)) : wpY_tellLeaf post (yma, ypo, yhe, yvm, yin, yfi, yde, yap, yas, yto, yan, yco, yti, yna, yac, yen, yic, o, l, kS, d, pl, ys, yk, yn, yp, yf, yo, yi, yw, ya, y1, y2, yK, yW, yL, yq, nm, nv, no, yA, lf, rt, iK, iN) (nI g) (nI 4) px := by
  have eg' : (nI g).toNatClampNeg = g := nI_clamp (by omega)
  have hin : vp_in (nI g) 601 := vp_in_nI (by omega) (by omega)
  unfold wpY_tellLeaf
  dsimp only
  rw [eg', ew]
  refine ⟨hin, nm_e (ym_sort (by omega) ?_)⟩
  refine br_f (by decide) (br_f (by decide) (br_t rfl (ym_thing (κ := 3) (by omega) ?_)))
  unfold wY_tellLeaf_54
  exact yr_tell ea hp
theorem yl_5 {yma ypo yhe yvm : Int32} {yin : Int64} {yfi yde yap yas yto : Int32} {yan : Int64} {yco yti yna yac yen yic : Int32} {o l kS d : Nat → Int32} {pl ys : Nat → Int64} {yk yn yp yf yo : Nat → Int32} {yi : Nat → Int64} {yw ya y1 y2 : Nat → Int32} {yK : Nat → Int64} {yW : Nat → Int32} {yL : Nat → Int64} {yq nm : Nat → Int32} {nv : Nat → Int64} {no : Nat → Int32} {yA lf rt : Nat → Int64} {iK iN : Nat → Int32} {post : SY → Prop} {g a κ : Nat} {x px : Int32} (hg : g < 600) (ew : yi g = yy_t κ x) (hκ : κ ≤ 5) (ea : yas = nI (a + 1)) {m kx : Nat} (epx : px = nI kx) (hkx : kx < 8) (h5 : κ = 5 → ∃ j oa, x = nI j ∧ j < 760 ∧ kS j = nI m ∧ m < 256 ∧ o j = nI oa ∧ oa + vv_pc m 8 ≤ 8200 ∧ (m / 2 ^ kx % 2 = 1 → post (yma, ypo, yhe, yvm, yin, yfi, yde, yap, (nI a), 0, (pl (oa + vv_pc m kx)), yco, yti, yna, yac, yen, yic, o, l, kS, d, pl, ys, yk, yn, yp, yf, yo, yi, yw, ya, y1, y2, yK, yW, yL, yq, nm, nv, no, yA, lf, rt, iK, iN))) (h0 : κ = 0 ∨ (κ = 5 ∧ m / 2 ^ kx % 2 = 0) → post (yma, ypo, yhe, yvm, yin, yfi, yde, yap, (nI a), 0, 0, yco, yti, yna, yac, yen, yic, o, l, kS, d, pl, ys, yk, yn, yp, yf, yo, yi, yw, ya, y1, y2, yK, yW, yL, yq, nm, nv, no, yA, lf, rt, iK, iN)) (h2 : κ ≠ 0 → κ ≠ 5 → post (yma, ypo, yhe, yvm, yin, yfi, yde, yap, (nI a), 2, 0, yco, yti, yna, yac, yen, yic, o, l, kS, d, pl, ys, yk, yn, yp, yf, yo, yi, yw, ya, y1, y2, yK, yW, yL, yq, nm, nv, no, yA, lf, rt, iK, iN)) : wpY_tellLeaf post (yma, ypo, yhe, yvm, yin, yfi, yde, yap, yas, yto, yan, yco, yti, yna, yac, yen, yic, o, l, kS, d, pl, ys, yk, yn, yp, yf, yo, yi, yw, ya, y1, y2, yK, yW, yL, yq, nm, nv, no, yA, lf, rt, iK, iN) (nI g) (nI 5) px := by
  have eg' : (nI g).toNatClampNeg = g := nI_clamp (by omega)
  have hin : vp_in (nI g) 601 := vp_in_nI (by omega) (by omega)
  unfold wpY_tellLeaf
  dsimp only
  rw [eg', ew]
  refine ⟨hin, nm_e (ym_sort (by omega) ?_)⟩
  refine br_t (by decide) (br_t rfl ?_)
  subst epx
  refine pk_eq κ 5 (fun e5 => ?_) (fun n5 => pk_eq κ 0 (fun e0 => ?_) (fun n0 => ?_))
  · obtain ⟨j, oa, j1, j2, j3, j4, j5, j6, j7⟩ := h5 e5
    subst j1 e5
    unfold wY_tellLeaf_77 wY_tellLeaf_82
    refine br_t rfl (yl_fieldOf j2 j3 j4 hkx j5 (by omega) (fun z => ⟨?_, ?_⟩) (fun z => ?_))
    · have h1 := vv_pc_u (m := m) (a := kx + 1) (b := 8) (by omega)
      have h2 := vv_pc_s m kx
      omega
    · unfold wY_tellLeaf_99
      exact yr_tell ea (j7 z)
    · unfold wY_tellLeaf_99
      exact yr_tell ea (h0 (Or.inr ⟨rfl, z⟩))
  · subst e0
    unfold wY_tellLeaf_77 wY_tellLeaf_82
    refine br_f (by decide) ?_
    unfold wY_tellLeaf_99
    exact yr_tell ea (h0 (Or.inl rfl))
  · unfold wY_tellLeaf_82
    refine br_f (fun z => n5 ((nI_eq (b := 5) (by omega) (by omega)).mp z)) ?_
    unfold wY_tellLeaf_99
    exact yr_tell ea (h2 n0 n5)
theorem yl_6 {yma ypo yhe yvm : Int32} {yin : Int64} {yfi yde yap yas yto : Int32} {yan : Int64} {yco yti yna yac yen yic : Int32} {o l kS d : Nat → Int32} {pl ys : Nat → Int64} {yk yn yp yf yo : Nat → Int32} {yi : Nat → Int64} {yw ya y1 y2 : Nat → Int32} {yK : Nat → Int64} {yW : Nat → Int32} {yL : Nat → Int64} {yq nm : Nat → Int32} {nv : Nat → Int64} {no : Nat → Int32} {yA lf rt : Nat → Int64} {iK iN : Nat → Int32} {post : SY → Prop} {g a κ : Nat} {x px : Int32} (hg : g < 600) (ew : yi g = yy_t κ x) (hκ : κ ≤ 5) (ea : yas = nI (a + 1)) {z : Nat} {y : Int32} (h4 : κ = 4 → ∃ j oa, x = nI j ∧ j < 760 ∧ o j = nI oa ∧ l j = nI z ∧ z ≤ 10 ∧ oa + z ≤ 8200 ∧ (0 ≤ px → y = px) ∧ (¬ 0 ≤ px → y = nI z + px) ∧ ∀ i, i < z → y = nI i → post (yma, ypo, yhe, yvm, yin, yfi, yde, yap, (nI a), 0, (pl (oa + i)), yco, yti, yna, yac, yen, yic, o, l, kS, d, pl, ys, yk, yn, yp, yf, yo, yi, yw, ya, y1, y2, yK, yW, yL, yq, nm, nv, no, yA, lf, rt, iK, iN)) (h0 : κ = 0 ∨ (κ = 4 ∧ (y < 0 ∨ nI z ≤ y)) → post (yma, ypo, yhe, yvm, yin, yfi, yde, yap, (nI a), 0, 0, yco, yti, yna, yac, yen, yic, o, l, kS, d, pl, ys, yk, yn, yp, yf, yo, yi, yw, ya, y1, y2, yK, yW, yL, yq, nm, nv, no, yA, lf, rt, iK, iN)) (h2 : κ ≠ 0 → κ ≠ 4 → post (yma, ypo, yhe, yvm, yin, yfi, yde, yap, (nI a), 2, 0, yco, yti, yna, yac, yen, yic, o, l, kS, d, pl, ys, yk, yn, yp, yf, yo, yi, yw, ya, y1, y2, yK, yW, yL, yq, nm, nv, no, yA, lf, rt, iK, iN)) : wpY_tellLeaf post (yma, ypo, yhe, yvm, yin, yfi, yde, yap, yas, yto, yan, yco, yti, yna, yac, yen, yic, o, l, kS, d, pl, ys, yk, yn, yp, yf, yo, yi, yw, ya, y1, y2, yK, yW, yL, yq, nm, nv, no, yA, lf, rt, iK, iN) (nI g) (nI 6) px := by
  have eg' : (nI g).toNatClampNeg = g := nI_clamp (by omega)
  have hin : vp_in (nI g) 601 := vp_in_nI (by omega) (by omega)
  unfold wpY_tellLeaf
  dsimp only
  rw [eg', ew]
  refine ⟨hin, nm_e (ym_sort (by omega) ?_)⟩
  refine br_t (by decide) (br_f (by decide) (br_t rfl ?_))
  refine pk_eq κ 4 (fun e4 => ?_) (fun n4 => ?_)
  · obtain ⟨j, oa, j1, j2, j3, j4, j5, j6, j7, j8, j9⟩ := h4 e4
    subst j1 e4
    have fin : wY_tellLeaf_133 post (yy_t 4 (nI j)) (nI 4) y yma ypo yhe yvm yin yfi yde yap yas yto yan yco yti yna yac yen yic o l kS d pl ys yk yn yp yf yo yi yw ya y1 y2 yK yW yL yq nm nv no yA lf rt iK iN := by
      unfold wY_tellLeaf_133
      refine br_t rfl ?_
      unfold wY_tellLeaf_147 wY_tellLeaf_152
      have k185 : (y < 0 ∨ nI z ≤ y) → wY_tellLeaf_185 post 0 yma ypo yhe yvm yin yfi yde yap yas yto yan yco yti yna yac yen yic o l kS d pl ys yk yn yp yf yo yi yw ya y1 y2 yK yW yL yq nm nv no yA lf rt iK iN := by
        intro w
        unfold wY_tellLeaf_185 wY_tellLeaf_186
        exact yr_tell ea (h0 (Or.inr ⟨rfl, w⟩))
      refine br_t rfl (br_c (fun w => k185 (Or.inl w)) (fun n0 => ym_lengthOf j2 ?_))
      rw [j4]
      refine br_c (fun w => k185 (Or.inr w)) (fun nz => ?_)
      rcases pk_ix y (n := z) (by omega) with w | w | ⟨i, i1, i2⟩
      · exact absurd w n0
      · exact absurd w nz
      · have hh := j9 i i1 i2
        rw [i2]
        refine ym_place j2 j3 (by omega) ?_
        unfold wY_tellLeaf_186
        exact yr_tell ea hh
    refine br_c (fun w => ?_) (fun w => ym_lengthOf j2 ?_)
    · unfold wY_tellLeaf_132
      rw [j7 w] at fin
      exact fin
    · rw [j4]
      rw [j8 w] at fin
      exact fin
  · unfold wY_tellLeaf_132 wY_tellLeaf_133
    have n4' : ¬ nI κ = (4 : Int32) := fun z => n4 ((nI_eq (b := 4) (by omega) (by omega)).mp z)
    refine br_f n4' (pk_eq κ 0 (fun e0 => ?_) (fun n0 => ?_))
    · unfold wY_tellLeaf_147 wY_tellLeaf_152
      refine br_f n4' ?_
      unfold wY_tellLeaf_185 wY_tellLeaf_186
      exact yr_tell ea (h0 (Or.inl e0))
    · unfold wY_tellLeaf_152
      refine br_f n4' ?_
      unfold wY_tellLeaf_185 wY_tellLeaf_186
      exact yr_tell ea (h2 n0 n4)
theorem yl_10 {yma ypo yhe yvm : Int32} {yin : Int64} {yfi yde yap yas yto : Int32} {yan : Int64} {yco yti yna yac yen yic : Int32} {o l kS d : Nat → Int32} {pl ys : Nat → Int64} {yk yn yp yf yo : Nat → Int32} {yi : Nat → Int64} {yw ya y1 y2 : Nat → Int32} {yK : Nat → Int64} {yW : Nat → Int32} {yL : Nat → Int64} {yq nm : Nat → Int32} {nv : Nat → Int64} {no : Nat → Int32} {yA lf rt : Nat → Int64} {iK iN : Nat → Int32} {post : SY → Prop} {g a κ : Nat} {x px : Int32} (hg : g < 600) (ew : yi g = yy_t κ x) (hκ : κ ≤ 5) (ea : yas = nI (a + 1)) {y : Int32} (hy : (κ = 3 → (0 ≤ x → y = x) ∧ (¬ 0 ≤ x → y = -x)) ∧ (κ < 3 → y = 0) ∧ (3 < κ → ∃ j, x = nI j ∧ j < 760 ∧ y = l j)) (h0 : κ ≠ 1 → κ ≠ 2 → post (yma, ypo, yhe, yvm, yin, yfi, yde, yap, (nI a), 0, (yy_t 3 y), yco, yti, yna, yac, yen, yic, o, l, kS, d, pl, ys, yk, yn, yp, yf, yo, yi, yw, ya, y1, y2, yK, yW, yL, yq, nm, nv, no, yA, lf, rt, iK, iN)) (h2 : κ = 1 ∨ κ = 2 → ∀ w : Int64, post (yma, ypo, yhe, yvm, yin, yfi, yde, yap, (nI a), 2, w, yco, yti, yna, yac, yen, yic, o, l, kS, d, pl, ys, yk, yn, yp, yf, yo, yi, yw, ya, y1, y2, yK, yW, yL, yq, nm, nv, no, yA, lf, rt, iK, iN)) : wpY_tellLeaf post (yma, ypo, yhe, yvm, yin, yfi, yde, yap, yas, yto, yan, yco, yti, yna, yac, yen, yic, o, l, kS, d, pl, ys, yk, yn, yp, yf, yo, yi, yw, ya, y1, y2, yK, yW, yL, yq, nm, nv, no, yA, lf, rt, iK, iN) (nI g) (nI 10) px := by
  have eg' : (nI g).toNatClampNeg = g := nI_clamp (by omega)
  have hin : vp_in (nI g) 601 := vp_in_nI (by omega) (by omega)
  unfold wpY_tellLeaf
  dsimp only
  rw [eg', ew]
  refine ⟨hin, nm_e (ym_sort (by omega) ?_)⟩
  have k221 : ∀ (t : Int32), (∀ w : Int64, w = yy_t 3 y → post (yma, ypo, yhe, yvm, yin, yfi, yde, yap, (nI a), t, w, yco, yti, yna, yac, yen, yic, o, l, kS, d, pl, ys, yk, yn, yp, yf, yo, yi, yw, ya, y1, y2, yK, yW, yL, yq, nm, nv, no, yA, lf, rt, iK, iN)) → wY_tellLeaf_221 post (yy_t κ x) (nI κ) (yy_t κ x).toInt32 t yma ypo yhe yvm yin yfi yde yap yas yto yan yco yti yna yac yen yic o l kS d pl ys yk yn yp yf yo yi yw ya y1 y2 yK yW yL yq nm nv no yA lf rt iK iN := by
    intro t ht
    obtain ⟨u1, u2, u3⟩ := hy
    have k270 : ∀ v : Int32, v = y → wY_tellLeaf_270 post v 3 t yma ypo yhe yvm yin yfi yde yap yas yto yan yco yti yna yac yen yic o l kS d pl ys yk yn yp yf yo yi yw ya y1 y2 yK yW yL yq nm nv no yA lf rt iK iN := by
      intro v hv
      subst hv
      unfold wY_tellLeaf_270
      exact ym_thing (κ := 3) (by omega) (yr_tell ea (ht _ rfl))
    unfold wY_tellLeaf_221
    rw [yy_xt]
    refine pk_eq κ 0 (fun e => k270 0 (u2 (by omega)).symm) (fun n0 => pk_eq κ 3 (fun e => br_c (fun w => k270 _ ((u1 e).1 w).symm) (fun w => k270 _ ((u1 e).2 w).symm)) (fun n3 => pk_le κ 3 (fun w => k270 0 (u2 (by omega)).symm) (fun w => ?_)))
    obtain ⟨j, j1, j2, j3⟩ := u3 w
    subst j1
    exact ym_lengthOf j2 (k270 _ j3.symm)
  refine br_t (by decide) (br_f (by decide) (br_f (by decide) (br_t rfl ?_)))
  refine pk_eq κ 1 (fun e => ?_) (fun n1 => pk_eq κ 2 (fun e => ?_) (fun n2 => ?_))
  · unfold wY_tellLeaf_216
    exact k221 2 (fun w _ => h2 (Or.inl e) w)
  · unfold wY_tellLeaf_216
    exact k221 2 (fun w _ => h2 (Or.inr e) w)
  · exact k221 0 (fun w hw => by rw [hw]; exact h0 n1 n2)
theorem yl_11 {yma ypo yhe yvm : Int32} {yin : Int64} {yfi yde yap yas yto : Int32} {yan : Int64} {yco yti yna yac yen yic : Int32} {o l kS d : Nat → Int32} {pl ys : Nat → Int64} {yk yn yp yf yo : Nat → Int32} {yi : Nat → Int64} {yw ya y1 y2 : Nat → Int32} {yK : Nat → Int64} {yW : Nat → Int32} {yL : Nat → Int64} {yq nm : Nat → Int32} {nv : Nat → Int64} {no : Nat → Int32} {yA lf rt : Nat → Int64} {iK iN : Nat → Int32} {yma' ypo' yhe' yvm' : Int32} {yin' : Int64} {yfi' yde' yap' yas' yto' : Int32} {yan' : Int64} {yco' yti' yna' yac' yen' yic' : Int32} {o' l' kS' d' : Nat → Int32} {pl' ys' : Nat → Int64} {yk' yn' yp' yf' yo' : Nat → Int32} {yi' : Nat → Int64} {yw' ya' y1' y2' : Nat → Int32} {yK' : Nat → Int64} {yW' : Nat → Int32} {yL' : Nat → Int64} {yq' nm' : Nat → Int32} {nv' : Nat → Int64} {no' : Nat → Int32} {yA' lf' rt' : Nat → Int64} {iK' iN' : Nat → Int32} {post : SY → Prop} {g a κ : Nat} {x px : Int32} (hg : g < 600) (ew : yi g = yy_t κ x) (hκ : κ ≤ 5) (ea : yas = nI (a + 1)) (hA : ∀ Q : SY → Prop, Q (yma', ypo', yhe', yvm', yin', yfi', yde', yap', yas', yto', yan', yco', yti', yna', yac', yen', yic', o', l', kS', d', pl', ys', yk', yn', yp', yf', yo', yi', yw', ya', y1', y2', yK', yW', yL', yq', nm', nv', no', yA', lf', rt', iK', iN') → wpY_tellKeys Q (yma, ypo, yhe, yvm, yin, yfi, yde, yap, yas, yto, yan, yco, yti, yna, yac, yen, yic, o, l, kS, d, pl, ys, yk, yn, yp, yf, yo, yi, yw, ya, y1, y2, yK, yW, yL, yq, nm, nv, no, yA, lf, rt, iK, iN) (yy_t κ x) (nI κ)) (hp : post (yma', ypo', yhe', yvm', yin', yfi', yde', yap', yas', yto', yan', yco', yti', yna', yac', yen', yic', o', l', kS', d', pl', ys', yk', yn', yp', yf', yo', yi', yw', ya', y1', y2', yK', yW', yL', yq', nm', nv', no', yA', lf', rt', iK', iN')) : wpY_tellLeaf post (yma, ypo, yhe, yvm, yin, yfi, yde, yap, yas, yto, yan, yco, yti, yna, yac, yen, yic, o, l, kS, d, pl, ys, yk, yn, yp, yf, yo, yi, yw, ya, y1, y2, yK, yW, yL, yq, nm, nv, no, yA, lf, rt, iK, iN) (nI g) (nI 11) px := by
  have eg' : (nI g).toNatClampNeg = g := nI_clamp (by omega)
  have hin : vp_in (nI g) 601 := vp_in_nI (by omega) (by omega)
  unfold wpY_tellLeaf
  dsimp only
  rw [eg', ew]
  refine ⟨hin, nm_e (ym_sort (by omega) ?_)⟩
  exact br_t (by decide) (br_f (by decide) (br_f (by decide) (br_f (by decide) (br_t rfl (hA _ hp)))))
theorem yl_12 {yma ypo yhe yvm : Int32} {yin : Int64} {yfi yde yap yas yto : Int32} {yan : Int64} {yco yti yna yac yen yic : Int32} {o l kS d : Nat → Int32} {pl ys : Nat → Int64} {yk yn yp yf yo : Nat → Int32} {yi : Nat → Int64} {yw ya y1 y2 : Nat → Int32} {yK : Nat → Int64} {yW : Nat → Int32} {yL : Nat → Int64} {yq nm : Nat → Int32} {nv : Nat → Int64} {no : Nat → Int32} {yA lf rt : Nat → Int64} {iK iN : Nat → Int32} {post : SY → Prop} {g a κ : Nat} {x px : Int32} (hg : g < 600) (ew : yi g = yy_t κ x) (hκ : κ ≤ 5) (ea : yas = nI (a + 1)) (hp : post (yma, ypo, yhe, yvm, yin, yfi, yde, yap, (nI a), 0, (yy_t 3 (nI κ)), yco, yti, yna, yac, yen, yic, o, l, kS, d, pl, ys, yk, yn, yp, yf, yo, yi, yw, ya, y1, y2, yK, yW, yL, yq, nm, nv, no, yA, lf, rt, iK, iN)) : wpY_tellLeaf post (yma, ypo, yhe, yvm, yin, yfi, yde, yap, yas, yto, yan, yco, yti, yna, yac, yen, yic, o, l, kS, d, pl, ys, yk, yn, yp, yf, yo, yi, yw, ya, y1, y2, yK, yW, yL, yq, nm, nv, no, yA, lf, rt, iK, iN) (nI g) (nI 12) px := by
  have eg' : (nI g).toNatClampNeg = g := nI_clamp (by omega)
  have hin : vp_in (nI g) 601 := vp_in_nI (by omega) (by omega)
  unfold wpY_tellLeaf
  dsimp only
  rw [eg', ew]
  refine ⟨hin, nm_e (ym_sort (by omega) ?_)⟩
  exact br_t (by decide) (br_f (by decide) (br_f (by decide) (br_f (by decide) (br_f (by decide) (br_t rfl (ym_thing (κ := 3) (by omega) (yr_tell ea hp)))))))
theorem yl_13 {yma ypo yhe yvm : Int32} {yin : Int64} {yfi yde yap yas yto : Int32} {yan : Int64} {yco yti yna yac yen yic : Int32} {o l kS d : Nat → Int32} {pl ys : Nat → Int64} {yk yn yp yf yo : Nat → Int32} {yi : Nat → Int64} {yw ya y1 y2 : Nat → Int32} {yK : Nat → Int64} {yW : Nat → Int32} {yL : Nat → Int64} {yq nm : Nat → Int32} {nv : Nat → Int64} {no : Nat → Int32} {yA lf rt : Nat → Int64} {iK iN : Nat → Int32} {post : SY → Prop} {g a κ : Nat} {x px : Int32} (hg : g < 600) (ew : yi g = yy_t κ x) (hκ : κ ≤ 5) (ea : yas = nI (a + 1)) {nd kx : Nat} (epx : px = nI kx) (hn : en_ok nd no) (hw : en_at nd (yw g)) (hp : post (yma, ypo, yhe, yvm, yin, yfi, yde, yap, (nI a), 0, (en_e nm no nv (yw g) kx), yco, yti, yna, yac, yen, yic, o, l, kS, d, pl, ys, yk, yn, yp, yf, yo, yi, yw, ya, y1, y2, yK, yW, yL, yq, nm, nv, no, yA, lf, rt, iK, iN)) : wpY_tellLeaf post (yma, ypo, yhe, yvm, yin, yfi, yde, yap, yas, yto, yan, yco, yti, yna, yac, yen, yic, o, l, kS, d, pl, ys, yk, yn, yp, yf, yo, yi, yw, ya, y1, y2, yK, yW, yL, yq, nm, nv, no, yA, lf, rt, iK, iN) (nI g) (nI 13) px := by
  have eg' : (nI g).toNatClampNeg = g := nI_clamp (by omega)
  have hin : vp_in (nI g) 601 := vp_in_nI (by omega) (by omega)
  unfold wpY_tellLeaf
  dsimp only
  rw [eg', ew]
  refine ⟨hin, nm_e (ym_sort (by omega) ?_)⟩
  subst epx
  exact br_t (by decide) (br_f (by decide) (br_f (by decide) (br_f (by decide) (br_f (by decide) (br_f (by decide) (br_t rfl (⟨hin, yr_meaning hn hw (yr_tell ea hp)⟩)))))))
theorem yl_14 {yma ypo yhe yvm : Int32} {yin : Int64} {yfi yde yap yas yto : Int32} {yan : Int64} {yco yti yna yac yen yic : Int32} {o l kS d : Nat → Int32} {pl ys : Nat → Int64} {yk yn yp yf yo : Nat → Int32} {yi : Nat → Int64} {yw ya y1 y2 : Nat → Int32} {yK : Nat → Int64} {yW : Nat → Int32} {yL : Nat → Int64} {yq nm : Nat → Int32} {nv : Nat → Int64} {no : Nat → Int32} {yA lf rt : Nat → Int64} {iK iN : Nat → Int32} {post : SY → Prop} {g a κ : Nat} {x px : Int32} (hg : g < 600) (ew : yi g = yy_t κ x) (hκ : κ ≤ 5) (ea : yas = nI (a + 1)) (h0 : 2 ≤ κ → post (yma, ypo, yhe, yvm, yin, yfi, yde, yap, (nI a), 0, (yy_t 1 0), yco, yti, yna, yac, yen, yic, o, l, kS, d, pl, ys, yk, yn, yp, yf, yo, yi, yw, ya, y1, y2, yK, yW, yL, yq, nm, nv, no, yA, lf, rt, iK, iN)) (h1 : κ < 2 → post (yma, ypo, yhe, yvm, yin, yfi, yde, yap, (nI a), 0, (yy_t 2 0), yco, yti, yna, yac, yen, yic, o, l, kS, d, pl, ys, yk, yn, yp, yf, yo, yi, yw, ya, y1, y2, yK, yW, yL, yq, nm, nv, no, yA, lf, rt, iK, iN)) : wpY_tellLeaf post (yma, ypo, yhe, yvm, yin, yfi, yde, yap, yas, yto, yan, yco, yti, yna, yac, yen, yic, o, l, kS, d, pl, ys, yk, yn, yp, yf, yo, yi, yw, ya, y1, y2, yK, yW, yL, yq, nm, nv, no, yA, lf, rt, iK, iN) (nI g) (nI 14) px := by
  have eg' : (nI g).toNatClampNeg = g := nI_clamp (by omega)
  have hin : vp_in (nI g) 601 := vp_in_nI (by omega) (by omega)
  unfold wpY_tellLeaf
  dsimp only
  rw [eg', ew]
  refine ⟨hin, nm_e (ym_sort (by omega) ?_)⟩
  have k354 : wY_tellLeaf_354 post (yy_t κ x) 0 yma ypo yhe yvm yin yfi yde yap yas yto yan yco yti yna yac yen yic o l kS d pl ys yk yn yp yf yo yi yw ya y1 y2 yK yW yL yq nm nv no yA lf rt iK iN := by
    unfold wY_tellLeaf_354
    refine ym_isEmpty (by omega) (fun w => ym_truth (fun _ => yr_tell ea (h0 w)) (fun z => absurd rfl z)) (fun w => ym_truth (fun z => absurd z (by decide)) (fun _ => yr_tell ea (h1 w)))
  exact br_t (by decide) (br_f (by decide) (br_f (by decide) (br_f (by decide) (br_f (by decide) (br_f (by decide) (br_f (by decide) (br_t rfl (k354))))))))
theorem yl_9 {yma ypo yhe yvm : Int32} {yin : Int64} {yfi yde yap yas yto : Int32} {yan : Int64} {yco yti yna yac yen yic : Int32} {o l kS d : Nat → Int32} {pl ys : Nat → Int64} {yk yn yp yf yo : Nat → Int32} {yi : Nat → Int64} {yw ya y1 y2 : Nat → Int32} {yK : Nat → Int64} {yW : Nat → Int32} {yL : Nat → Int64} {yq nm : Nat → Int32} {nv : Nat → Int64} {no : Nat → Int32} {yA lf rt : Nat → Int64} {iK iN : Nat → Int32} {post : SY → Prop} {g a κ : Nat} {x px : Int32} (hg : g < 600) (ew : yi g = yy_t κ x) (hκ : κ ≤ 5) (ea : yas = nI (a + 1)) (hp : ∀ w : Int64, post (yma, ypo, yhe, yvm, yin, yfi, yde, yap, (nI a), 2, w, yco, yti, yna, yac, yen, yic, o, l, kS, d, pl, ys, yk, yn, yp, yf, yo, yi, yw, ya, y1, y2, yK, yW, yL, yq, nm, nv, no, yA, lf, rt, iK, iN)) : wpY_tellLeaf post (yma, ypo, yhe, yvm, yin, yfi, yde, yap, yas, yto, yan, yco, yti, yna, yac, yen, yic, o, l, kS, d, pl, ys, yk, yn, yp, yf, yo, yi, yw, ya, y1, y2, yK, yW, yL, yq, nm, nv, no, yA, lf, rt, iK, iN) (nI g) (nI 9) px := by
  have eg' : (nI g).toNatClampNeg = g := nI_clamp (by omega)
  have hin : vp_in (nI g) 601 := vp_in_nI (by omega) (by omega)
  unfold wpY_tellLeaf
  dsimp only
  rw [eg', ew]
  refine ⟨hin, nm_e (ym_sort (by omega) ?_)⟩
  have k354 : wY_tellLeaf_354 post (yy_t κ x) 2 yma ypo yhe yvm yin yfi yde yap yas yto yan yco yti yna yac yen yic o l kS d pl ys yk yn yp yf yo yi yw ya y1 y2 yK yW yL yq nm nv no yA lf rt iK iN := by
    unfold wY_tellLeaf_354
    refine ym_isEmpty (by omega) (fun w => ym_truth (fun _ => yr_tell ea (hp _)) (fun z => absurd rfl z)) (fun w => ym_truth (fun z => absurd z (by decide)) (fun _ => yr_tell ea (hp _)))
  exact br_t (by decide) (br_f (by decide) (br_f (by decide) (br_f (by decide) (br_f (by decide) (br_f (by decide) (br_f (by decide) (br_f (by decide) (k354))))))))
end
section
/-! ===== Y: asked ===== -/
theorem ys_pre {yma ypo yhe yvm : Int32} {yin : Int64} {yfi yde yap yas yto : Int32} {yan : Int64} {yco yti yna yac yen yic : Int32} {o l kS d : Nat → Int32} {pl ys : Nat → Int64} {yk yn yp yf yo : Nat → Int32} {yi : Nat → Int64} {yw ya y1 y2 : Nat → Int32} {yK : Nat → Int64} {yW : Nat → Int32} {yL : Nat → Int64} {yq nm : Nat → Int32} {nv : Nat → Int64} {no : Nat → Int32} {yA lf rt : Nat → Int64} {iK iN : Nat → Int32} {post : SY → Prop} {g q kk : Nat} (hg : g < 600) (eo : yo g = nI q) (hq : q < 40) (ek : yk q = nI kk) (hk : kk < 60)
    (hl : kk < 20 → wpY_startLeaf (fun u => match u with | (yma', ypo', yhe', yvm', yin', yfi', yde', yap', yas', yto', yan', yco', yti', yna', yac', yen', yic', o', l', kS', d', pl', ys', yk', yn', yp', yf', yo', yi', yw', ya', y1', y2', yK', yW', yL', yq', nm', nv', no', yA', lf', rt', iK', iN') => post (yma', ypo', yhe', yvm', yin', yfi', yde', yap', yas', yto', yan', yco', yti', yna', yac', yen', yic', o', l', kS', d', pl', ys', yk', yn', yp', yf', yo', yi', yw', ya', y1', y2', yK', yW', yL', yq', nm', nv', no', yA', lf', rt', iK', iN')) (yma, ypo, yhe, yvm, yin, yfi, yde, yap, yas, yto, yan, yco, yti, yna, yac, yen, yic, o, l, kS, d, pl, ys, yk, yn, yp, yf, yo, yi, yw, ya, y1, y2, yK, yW, yL, yq, nm, nv, no, yA, lf, rt, iK, iN) (nI g)) (ha : kk = 20 → ya g = 0 → wpY_askFirst (fun u => match u with | (yma', ypo', yhe', yvm', yin', yfi', yde', yap', yas', yto', yan', yco', yti', yna', yac', yen', yic', o', l', kS', d', pl', ys', yk', yn', yp', yf', yo', yi', yw', ya', y1', y2', yK', yW', yL', yq', nm', nv', no', yA', lf', rt', iK', iN') => post (yma', ypo', yhe', yvm', yin', yfi', yde', yap', yas', yto', yan', yco', yti', yna', yac', yen', yic', o', l', kS', d', pl', ys', yk', yn', yp', yf', yo', yi', yw', ya', y1', y2', yK', yW', yL', yq', nm', nv', no', yA', lf', rt', iK', iN')) (yma, (ypo + 10), yhe, yvm, yin, yfi, yde, yap, yas, yto, yan, yco, yti, yna, yac, yen, yic, o, l, kS, d, pl, ys, yk, yn, yp, yf, yo, yi, yw, (upd ya g (ypo + 1)), y1, y2, yK, yW, yL, yq, nm, nv, no, yA, lf, rt, iK, iN) (nI g)) (h84 : 20 ≤ kk → (kk = 20 → ¬ ya g = 0) → wY_start_84 post (nI g) (nI kk) (yn q) yma ypo yhe yvm yin yfi yde yap yas yto yan yco yti yna yac yen yic o l kS d pl ys yk yn yp yf yo yi yw ya y1 y2 yK yW yL yq nm nv no yA lf rt iK iN) : wpY_start post (yma, ypo, yhe, yvm, yin, yfi, yde, yap, yas, yto, yan, yco, yti, yna, yac, yen, yic, o, l, kS, d, pl, ys, yk, yn, yp, yf, yo, yi, yw, ya, y1, y2, yK, yW, yL, yq, nm, nv, no, yA, lf, rt, iK, iN) (nI g) := by
  have eg' : (nI g).toNatClampNeg = g := nI_clamp (by omega)
  have hin : vp_in (nI g) 601 := vp_in_nI (by omega) (by omega)
  have hiq : vp_in (nI q) 40 := vp_in_nI hq (by omega)
  unfold wpY_start
  dsimp only
  rw [eg', eo, nI_clamp (show q < 2 ^ 31 by omega), ek]
  refine ⟨hin, hiq, nm_e ⟨hin, hiq, nm_e (pk_le 20 kk (fun w => pk_eq kk 20 (fun e => ⟨hin, br_c (fun z => ⟨hin, nm_e (nm_e (ha e z))⟩) (fun z => h84 w (fun _ => z))⟩) (fun ne => h84 w (fun e => absurd e ne))) (fun w => hl w))⟩⟩
theorem ys_leaf {yma ypo yhe yvm : Int32} {yin : Int64} {yfi yde yap yas yto : Int32} {yan : Int64} {yco yti yna yac yen yic : Int32} {o l kS d : Nat → Int32} {pl ys : Nat → Int64} {yk yn yp yf yo : Nat → Int32} {yi : Nat → Int64} {yw ya y1 y2 : Nat → Int32} {yK : Nat → Int64} {yW : Nat → Int32} {yL : Nat → Int64} {yq nm : Nat → Int32} {nv : Nat → Int64} {no : Nat → Int32} {yA lf rt : Nat → Int64} {iK iN : Nat → Int32} {yma' ypo' yhe' yvm' : Int32} {yin' : Int64} {yfi' yde' yap' yas' yto' : Int32} {yan' : Int64} {yco' yti' yna' yac' yen' yic' : Int32} {o' l' kS' d' : Nat → Int32} {pl' ys' : Nat → Int64} {yk' yn' yp' yf' yo' : Nat → Int32} {yi' : Nat → Int64} {yw' ya' y1' y2' : Nat → Int32} {yK' : Nat → Int64} {yW' : Nat → Int32} {yL' : Nat → Int64} {yq' nm' : Nat → Int32} {nv' : Nat → Int64} {no' : Nat → Int32} {yA' lf' rt' : Nat → Int64} {iK' iN' : Nat → Int32} {post : SY → Prop} {g q kk : Nat} (hg : g < 600) (eo : yo g = nI q) (hq : q < 40) (ek : yk q = nI kk) (hk : kk < 16) (n7 : kk ≠ 7) (n15 : kk ≠ 15) (n8 : kk ≠ 8) (e0 : ya g = 0)
    (hA : ∀ Q : SY → Prop, Q (yma', ypo', yhe', yvm', yin', yfi', yde', yap', yas', yto', yan', yco', yti', yna', yac', yen', yic', o', l', kS', d', pl', ys', yk', yn', yp', yf', yo', yi', yw', ya', y1', y2', yK', yW', yL', yq', nm', nv', no', yA', lf', rt', iK', iN') → wpY_tellLeaf Q (yma, ypo, yhe, yvm, yin, yfi, yde, yap, yas, yto, yan, yco, yti, yna, yac, yen, yic, o, l, kS, d, pl, ys, yk, yn, yp, yf, yo, yi, yw, (upd ya g 1), y1, y2, yK, yW, yL, yq, nm, nv, no, yA, lf, rt, iK, iN) (nI g) (nI kk) (yn q)) (hp : post (yma', ypo', yhe', yvm', yin', yfi', yde', yap', yas', yto', yan', yco', yti', yna', yac', yen', yic', o', l', kS', d', pl', ys', yk', yn', yp', yf', yo', yi', yw', ya', y1', y2', yK', yW', yL', yq', nm', nv', no', yA', lf', rt', iK', iN')) : wpY_start post (yma, ypo, yhe, yvm, yin, yfi, yde, yap, yas, yto, yan, yco, yti, yna, yac, yen, yic, o, l, kS, d, pl, ys, yk, yn, yp, yf, yo, yi, yw, ya, y1, y2, yK, yW, yL, yq, nm, nv, no, yA, lf, rt, iK, iN) (nI g) := by
  have eg' : (nI g).toNatClampNeg = g := nI_clamp (by omega)
  have hin : vp_in (nI g) 601 := vp_in_nI (by omega) (by omega)
  have hiq : vp_in (nI q) 40 := vp_in_nI hq (by omega)
  refine ys_pre hg eo hq ek (by omega) (fun _ => ?_) (fun e => absurd e (by omega)) (fun w => absurd w (by omega))
  unfold wpY_startLeaf
  dsimp only
  rw [eg', eo, nI_clamp (show q < 2 ^ 31 by omega), ek, e0]
  exact ⟨hin, hiq, nm_e (br_f (fun z => n7 ((nI_eq (b := 7) (by omega) (by omega)).mp z)) (br_f (fun z => n15 ((nI_eq (b := 15) (by omega) (by omega)).mp z)) (br_f (fun z => n8 ((nI_eq (b := 8) (by omega) (by omega)).mp z)) ⟨hin, br_f (by decide) ⟨hin, nm_e ⟨hin, hiq, hA _ hp⟩⟩⟩)))⟩
theorem ys_end {yma ypo yhe yvm : Int32} {yin : Int64} {yfi yde yap yas yto : Int32} {yan : Int64} {yco yti yna yac yen yic : Int32} {o l kS d : Nat → Int32} {pl ys : Nat → Int64} {yk yn yp yf yo : Nat → Int32} {yi : Nat → Int64} {yw ya y1 y2 : Nat → Int32} {yK : Nat → Int64} {yW : Nat → Int32} {yL : Nat → Int64} {yq nm : Nat → Int32} {nv : Nat → Int64} {no : Nat → Int32} {yA lf rt : Nat → Int64} {iK iN : Nat → Int32} {post : SY → Prop} {g q kk a : Nat} (hg : g < 600) (eo : yo g = nI q) (hq : q < 40) (ek : yk q = nI kk) (hk : kk < 16) (n7 : kk ≠ 7) (n15 : kk ≠ 15) (h8 : kk = 8 ∨ ya g = 1) (ea : yas = nI (a + 1))
    (hp : post (yma, ypo, yhe, yvm, yin, yfi, yde, yap, (nI a), 1, 0, yco, yti, yna, yac, yen, yic, o, l, kS, d, pl, ys, yk, yn, yp, yf, yo, yi, yw, ya, y1, y2, yK, yW, yL, yq, nm, nv, no, yA, lf, rt, iK, iN)) : wpY_start post (yma, ypo, yhe, yvm, yin, yfi, yde, yap, yas, yto, yan, yco, yti, yna, yac, yen, yic, o, l, kS, d, pl, ys, yk, yn, yp, yf, yo, yi, yw, ya, y1, y2, yK, yW, yL, yq, nm, nv, no, yA, lf, rt, iK, iN) (nI g) := by
  have eg' : (nI g).toNatClampNeg = g := nI_clamp (by omega)
  have hin : vp_in (nI g) 601 := vp_in_nI (by omega) (by omega)
  have hiq : vp_in (nI q) 40 := vp_in_nI hq (by omega)
  refine ys_pre hg eo hq ek (by omega) (fun _ => ?_) (fun e => absurd e (by omega)) (fun w => absurd w (by omega))
  unfold wpY_startLeaf
  dsimp only
  rw [eg', eo, nI_clamp (show q < 2 ^ 31 by omega), ek]
  have k56 : wY_startLeaf_56 (fun u => match u with | (yma', ypo', yhe', yvm', yin', yfi', yde', yap', yas', yto', yan', yco', yti', yna', yac', yen', yic', o', l', kS', d', pl', ys', yk', yn', yp', yf', yo', yi', yw', ya', y1', y2', yK', yW', yL', yq', nm', nv', no', yA', lf', rt', iK', iN') => post (yma', ypo', yhe', yvm', yin', yfi', yde', yap', yas', yto', yan', yco', yti', yna', yac', yen', yic', o', l', kS', d', pl', ys', yk', yn', yp', yf', yo', yi', yw', ya', y1', y2', yK', yW', yL', yq', nm', nv', no', yA', lf', rt', iK', iN')) yma ypo yhe yvm yin yfi yde yap yas yto yan yco yti yna yac yen yic o l kS d pl ys yk yn yp yf yo yi yw ya y1 y2 yK yW yL yq nm nv no yA lf rt iK iN := by
    unfold wY_startLeaf_56
    exact yr_tell ea hp
  refine ⟨hin, hiq, nm_e (br_f (fun z => n7 ((nI_eq (b := 7) (by omega) (by omega)).mp z)) (br_f (fun z => n15 ((nI_eq (b := 15) (by omega) (by omega)).mp z)) (br_c (fun _ => k56) (fun n8 => ⟨hin, br_t ?_ k56⟩))))⟩
  rcases h8 with w | w
  · exact absurd (by rw [w]; rfl) n8
  · exact w
theorem ys_each {yma ypo yhe yvm : Int32} {yin : Int64} {yfi yde yap yas yto : Int32} {yan : Int64} {yco yti yna yac yen yic : Int32} {o l kS d : Nat → Int32} {pl ys : Nat → Int64} {yk yn yp yf yo : Nat → Int32} {yi : Nat → Int64} {yw ya y1 y2 : Nat → Int32} {yK : Nat → Int64} {yW : Nat → Int32} {yL : Nat → Int64} {yq nm : Nat → Int32} {nv : Nat → Int64} {no : Nat → Int32} {yA lf rt : Nat → Int64} {iK iN : Nat → Int32} {post : SY → Prop} {g q a κ c gv : Nat} {x : Int32} (hg : g < 600) (eo : yo g = nI q) (hq : q < 40) (ek : yk q = nI 7) (ea : yas = nI (a + 1)) (ew : yi g = yy_t κ x) (hκ : κ ≤ 5) (ec : yco = nI c) (hc : c ≤ 600) (eW : yW g = nI gv) (hgv : gv ≤ 10)
    (h2 : κ < 4 → post (yma, ypo, yhe, yvm, yin, yfi, yde, yap, (nI a), 2, 0, yco, yti, yna, yac, yen, yic, o, l, kS, d, pl, ys, yk, yn, yp, yf, yo, yi, yw, ya, y1, y2, yK, yW, yL, yq, nm, nv, no, yA, lf, rt, iK, iN))
    (h4 : 4 ≤ κ → ∃ j oa z, x = nI j ∧ j < 760 ∧ o j = nI oa ∧ l j = nI z ∧ z ≤ 10 ∧ oa + z ≤ 8200 ∧ gv ≤ z ∧ (gv = z → post (yma, ypo, yhe, yvm, yin, yfi, yde, yap, (nI a), 1, 0, yco, yti, yna, yac, yen, yic, o, l, kS, d, pl, ys, yk, yn, yp, yf, yo, yi, yw, ya, y1, y2, yK, yW, yL, yq, nm, nv, no, yA, lf, rt, iK, iN)) ∧ (gv < z → c = 600 → post (yma, ypo, yhe, yvm, yin, yfi, yde, yap, yas, yto, yan, yco, 1, yna, yac, yen, yic, o, l, kS, d, pl, ys, yk, yn, yp, yf, yo, yi, yw, ya, y1, y2, yK, yW, yL, yq, nm, nv, no, yA, lf, rt, iK, iN)) ∧ (gv < z → c < 600 → post (yma, ypo, yhe, yvm, yin, yfi, yde, yap, (nI a), 0, (pl (oa + gv)), (nI (c + 1)), yti, yna, yac, yen, yic, o, l, kS, d, pl, ys, yk, yn, yp, yf, yo, yi, yw, ya, y1, y2, yK, (upd yW g (nI (gv + 1))), yL, yq, nm, nv, no, yA, lf, rt, iK, iN))) : wpY_start post (yma, ypo, yhe, yvm, yin, yfi, yde, yap, yas, yto, yan, yco, yti, yna, yac, yen, yic, o, l, kS, d, pl, ys, yk, yn, yp, yf, yo, yi, yw, ya, y1, y2, yK, yW, yL, yq, nm, nv, no, yA, lf, rt, iK, iN) (nI g) := by
  have eg' : (nI g).toNatClampNeg = g := nI_clamp (by omega)
  have hin : vp_in (nI g) 601 := vp_in_nI (by omega) (by omega)
  have hiq : vp_in (nI q) 40 := vp_in_nI hq (by omega)
  refine ys_pre hg eo hq ek (by omega) (fun _ => ?_) (fun e => absurd e (by omega)) (fun w => absurd w (by omega))
  unfold wpY_startLeaf
  dsimp only
  rw [eg', eo, nI_clamp (show q < 2 ^ 31 by omega), ek]
  refine ⟨hin, hiq, nm_e (br_t rfl ?_)⟩
  unfold wpY_tellEach
  dsimp only
  rw [eg', ew]
  refine ⟨hin, nm_e (ym_sort (by omega) (pk_le 4 κ (fun k4 => ⟨hin, ?_⟩) (fun k4 => yr_tell ea (h2 k4))))⟩
  obtain ⟨j, oa, z, j1, j2, j3, j4, j5, j6, j7, j8, j9, j10⟩ := h4 k4
  subst j1
  refine ym_lengthOf j2 ?_
  rw [j4, eW]
  refine pk_eq gv z (fun e => yr_tell ea (j8 e)) (fun ne => ?_)
  by_cases c6 : c = 600
  · subst c6
    exact yr_tired ec (br_t rfl (j9 (by omega) rfl))
  · refine yr_count ec (by omega) ?_
    dsimp only
    rw [eW, nI_1]
    refine br_f (by decide) ⟨hin, hin, nm_e ⟨hin, ?_⟩⟩
    rw [pk_us, nI_pred]
    exact ym_place j2 j3 (by omega) (yr_tell ea (j10 (by omega) (by omega)))
theorem ys_deep {yma ypo yhe yvm : Int32} {yin : Int64} {yfi yde yap yas yto : Int32} {yan : Int64} {yco yti yna yac yen yic : Int32} {o l kS d : Nat → Int32} {pl ys : Nat → Int64} {yk yn yp yf yo : Nat → Int32} {yi : Nat → Int64} {yw ya y1 y2 : Nat → Int32} {yK : Nat → Int64} {yW : Nat → Int32} {yL : Nat → Int64} {yq nm : Nat → Int32} {nv : Nat → Int64} {no : Nat → Int32} {yA lf rt : Nat → Int64} {iK iN : Nat → Int32} {V : Nat → Prop} {K N Z D Im W P : Nat → Int32} {post : SY → Prop} {g q a c mk pd s : Nat} (hx : vv_ox V K N Z D Im W P) (hy : vv_cy mk pd o l pl) (hs : s < 653) (hR : vv_R V K N Z D P mk o l kS d pl (nI s) (yi g)) (hg : g < 600) (eo : yo g = nI q) (hq : q < 40) (ek : yk q = nI 15) (ea : yas = nI (a + 1)) (ec : yco = nI c) (hc : c ≤ 600)
    (h0 : ya g = 0 → (c = 600 → post (yma, ypo, yhe, yvm, yin, yfi, yde, yap, yas, yto, yan, yco, 1, yna, yac, yen, yic, o, l, kS, d, pl, ys, yk, yn, yp, yf, yo, yi, yw, ya, y1, y2, yK, yW, yL, yq, nm, nv, no, yA, lf, rt, iK, iN)) ∧ (c < 600 → post (yma, ypo, yhe, yvm, yin, yfi, yde, yap, (nI a), 0, (yi g), (nI (c + 1)), yti, yna, yac, yen, yic, o, l, kS, d, pl, ys, yk, yn, yp, yf, yo, yi, yw, (upd ya g 1), y1, y2, yK, (upd yW g 1), yL, yq, nm, nv, no, yA, lf, rt, iK, iN)))
    (h1 : ¬ ya g = 0 → ∃ p, yW g = nI (dp_wy p) ∧ dp_ok Z P p s ∧ (dp_ix W P p s + 1 = (W s).toNatClampNeg → post (yma, ypo, yhe, yvm, yin, yfi, yde, yap, (nI a), 1, 0, yco, yti, yna, yac, yen, yic, o, l, kS, d, pl, ys, yk, yn, yp, yf, yo, yi, yw, ya, y1, y2, yK, yW, yL, yq, nm, nv, no, yA, lf, rt, iK, iN)) ∧
      ∀ p2, dp_ok Z P p2 s → p2.length ≤ 4 → dp_ix W P p2 s = dp_ix W P p s + 1 → (c = 600 → post (yma, ypo, yhe, yvm, yin, yfi, yde, yap, yas, yto, yan, yco, 1, yna, yac, yen, yic, o, l, kS, d, pl, ys, yk, yn, yp, yf, yo, yi, yw, ya, y1, y2, yK, yW, yL, yq, nm, nv, no, yA, lf, rt, iK, iN)) ∧ (c < 600 → ∀ w, vv_R V K N Z D P mk o l kS d pl (nI (dp_at P p2 s)) w → post (yma, ypo, yhe, yvm, yin, yfi, yde, yap, (nI a), 0, w, (nI (c + 1)), yti, yna, yac, yen, yic, o, l, kS, d, pl, ys, yk, yn, yp, yf, yo, yi, yw, ya, y1, y2, yK, (upd yW g (nI (dp_wy p2))), yL, yq, nm, nv, no, yA, lf, rt, iK, iN))) : wpY_start post (yma, ypo, yhe, yvm, yin, yfi, yde, yap, yas, yto, yan, yco, yti, yna, yac, yen, yic, o, l, kS, d, pl, ys, yk, yn, yp, yf, yo, yi, yw, ya, y1, y2, yK, yW, yL, yq, nm, nv, no, yA, lf, rt, iK, iN) (nI g) := by
  have eg' : (nI g).toNatClampNeg = g := nI_clamp (by omega)
  have hin : vp_in (nI g) 601 := vp_in_nI (by omega) (by omega)
  have hiq : vp_in (nI q) 40 := vp_in_nI hq (by omega)
  refine ys_pre hg eo hq ek (by omega) (fun _ => ?_) (fun e => absurd e (by omega)) (fun w => absurd w (by omega))
  unfold wpY_startLeaf
  dsimp only
  rw [eg', eo, nI_clamp (show q < 2 ^ 31 by omega), ek]
  refine ⟨hin, hiq, nm_e (br_f (by decide) (br_t rfl ?_))⟩
  unfold wpY_tellDeep
  dsimp only
  rw [eg']
  refine ⟨hin, br_c (fun z => ?_) (fun z => ⟨hin, ?_⟩)⟩
  · obtain ⟨t1, t2⟩ := h0 z
    by_cases c6 : c = 600
    · subst c6
      exact yr_tired ec (br_t rfl (t1 rfl))
    · refine yr_count ec (by omega) ?_
      dsimp only
      exact br_f (by decide) ⟨hin, nm_e ⟨hin, nm_e ⟨hin, yr_tell ea (t2 (by omega))⟩⟩⟩
  · obtain ⟨p, p1, p2, p3, p4⟩ := h1 z
    rw [p1]
    refine nm_e (yd_loop hx hy hs hR hg p2 (fun w => ?_) (fun p5 o5 l5 x5 => ?_))
    · unfold wY_tellDeep_94
      exact br_t rfl (yr_tell ea (p3 w))
    · obtain ⟨t1, t2⟩ := p4 p5 o5 l5 x5
      have V0 : V s := by
        obtain ⟨n, e1, e2, e3, _⟩ := hR
        have : n = s := (nI_eq (by omega) (by omega)).mp e1.symm
        subst this
        exact e3
      obtain ⟨ds, d4, de⟩ := vv_D hx V0
      obtain ⟨l1, l2⟩ := dp_len hx p5 s ds V0 de d4 o5
      have hd16 : ∀ k, k ∈ p5 → k < 16 := fun k hk => by have := l2 k hk; omega
      have hb := dp_wy_1 p5 hd16 (by omega)
      have hb2 := (dp_wy_b p5 hd16).1
      have hp1 : 0 < 16 ^ p5.length := Nat.pow_pos (by decide)
      unfold wY_tellDeep_94
      rw [eg']
      refine br_f (nI_ne0 (by omega) (by omega)) ?_
      by_cases c6 : c = 600
      · subst c6
        exact yr_tired ec (br_t rfl (t1 rfl))
      · refine yr_count ec (by omega) ?_
        dsimp only
        exact br_f (by decide) ⟨hin, nm_e ⟨hin, ym_atWay hx hy hs hR hd16 (by omega) o5 (fun w hw => yr_tell ea (t2 (by omega) w hw))⟩⟩
theorem ys_all0 {yma ypo yhe yvm : Int32} {yin : Int64} {yfi yde yap yas yto : Int32} {yan : Int64} {yco yti yna yac yen yic : Int32} {o l kS d : Nat → Int32} {pl ys : Nat → Int64} {yk yn yp yf yo : Nat → Int32} {yi : Nat → Int64} {yw ya y1 y2 : Nat → Int32} {yK : Nat → Int64} {yW : Nat → Int32} {yL : Nat → Int64} {yq nm : Nat → Int32} {nv : Nat → Int64} {no : Nat → Int32} {yA lf rt : Nat → Int64} {iK iN : Nat → Int32} {yma' ypo' yhe' yvm' : Int32} {yin' : Int64} {yfi' yde' yap' yas' yto' : Int32} {yan' : Int64} {yco' yti' yna' yac' yen' yic' : Int32} {o' l' kS' d' : Nat → Int32} {pl' ys' : Nat → Int64} {yk' yn' yp' yf' yo' : Nat → Int32} {yi' : Nat → Int64} {yw' ya' y1' y2' : Nat → Int32} {yK' : Nat → Int64} {yW' : Nat → Int32} {yL' : Nat → Int64} {yq' nm' : Nat → Int32} {nv' : Nat → Int64} {no' : Nat → Int32} {yA' lf' rt' : Nat → Int64} {iK' iN' : Nat → Int32} {post : SY → Prop} {g q pd : Nat} (hg : g < 600) (eo : yo g = nI q) (hq : q < 40) (ek : yk q = nI 20) (e0 : ya g = 0) (ep : ypo = nI pd)
    (hA : ∀ Q : SY → Prop, Q (yma', ypo', yhe', yvm', yin', yfi', yde', yap', yas', yto', yan', yco', yti', yna', yac', yen', yic', o', l', kS', d', pl', ys', yk', yn', yp', yf', yo', yi', yw', ya', y1', y2', yK', yW', yL', yq', nm', nv', no', yA', lf', rt', iK', iN') → wpY_askFirst Q (yma, (nI (pd + 10)), yhe, yvm, yin, yfi, yde, yap, yas, yto, yan, yco, yti, yna, yac, yen, yic, o, l, kS, d, pl, ys, yk, yn, yp, yf, yo, yi, yw, (upd ya g (nI (pd + 1))), y1, y2, yK, yW, yL, yq, nm, nv, no, yA, lf, rt, iK, iN) (nI g)) (hp : post (yma', ypo', yhe', yvm', yin', yfi', yde', yap', yas', yto', yan', yco', yti', yna', yac', yen', yic', o', l', kS', d', pl', ys', yk', yn', yp', yf', yo', yi', yw', ya', y1', y2', yK', yW', yL', yq', nm', nv', no', yA', lf', rt', iK', iN')) : wpY_start post (yma, ypo, yhe, yvm, yin, yfi, yde, yap, yas, yto, yan, yco, yti, yna, yac, yen, yic, o, l, kS, d, pl, ys, yk, yn, yp, yf, yo, yi, yw, ya, y1, y2, yK, yW, yL, yq, nm, nv, no, yA, lf, rt, iK, iN) (nI g) := by
  subst ep
  refine ys_pre hg eo hq ek (by omega) (fun w => absurd w (by omega)) (fun _ _ => ?_) (fun _ w => absurd e0 (w rfl))
  rw [nI_1, show nI pd + 10 = nI (pd + 10) from nI_add pd 10]
  exact hA _ hp
theorem ys_tell1 {yma ypo yhe yvm : Int32} {yin : Int64} {yfi yde yap yas yto : Int32} {yan : Int64} {yco yti yna yac yen yic : Int32} {o l kS d : Nat → Int32} {pl ys : Nat → Int64} {yk yn yp yf yo : Nat → Int32} {yi : Nat → Int64} {yw ya y1 y2 : Nat → Int32} {yK : Nat → Int64} {yW : Nat → Int32} {yL : Nat → Int64} {yq nm : Nat → Int32} {nv : Nat → Int64} {no : Nat → Int32} {yA lf rt : Nat → Int64} {iK iN : Nat → Int32} {post : SY → Prop} {g q kk a : Nat} (hg : g < 600) (eo : yo g = nI q) (hq : q < 40) (ek : yk q = nI kk) (hk : kk < 60) (h20 : 20 ≤ kk) (ea : yas = nI (a + 1)) (hz : (kk = 20 ∧ ¬ ya g = 0) ∨ (kk = 22 ∧ yW g = yn q) ∨ (kk = 51 ∧ ya g = 3))
    (hp : post (yma, ypo, yhe, yvm, yin, yfi, yde, yap, (nI a), 1, 0, yco, yti, yna, yac, yen, yic, o, l, kS, d, pl, ys, yk, yn, yp, yf, yo, yi, yw, ya, y1, y2, yK, yW, yL, yq, nm, nv, no, yA, lf, rt, iK, iN)) : wpY_start post (yma, ypo, yhe, yvm, yin, yfi, yde, yap, yas, yto, yan, yco, yti, yna, yac, yen, yic, o, l, kS, d, pl, ys, yk, yn, yp, yf, yo, yi, yw, ya, y1, y2, yK, yW, yL, yq, nm, nv, no, yA, lf, rt, iK, iN) (nI g) := by
  have eg' : (nI g).toNatClampNeg = g := nI_clamp (by omega)
  have hin : vp_in (nI g) 601 := vp_in_nI (by omega) (by omega)
  refine ys_pre hg eo hq ek hk (fun w => absurd w (by omega)) (fun e w => ?_) (fun _ w => ?_)
  · rcases hz with ⟨_, z⟩ | ⟨z, _⟩ | ⟨z, _⟩
    · exact absurd w z
    · omega
    · omega
  · have k106 : wY_start_106 post yma ypo yhe yvm yin yfi yde yap yas yto yan yco yti yna yac yen yic o l kS d pl ys yk yn yp yf yo yi yw ya y1 y2 yK yW yL yq nm nv no yA lf rt iK iN := by
      unfold wY_start_106
      exact yr_tell ea hp
    unfold wY_start_84
    rw [eg']
    refine pk_eq kk 20 (fun _ => k106) (fun n20 => pk_eq kk 22 (fun e => ⟨hin, br_t ?_ k106⟩) (fun n22 => ?_))
    · rcases hz with ⟨z, _⟩ | ⟨_, z⟩ | ⟨z, _⟩
      · omega
      · exact z
      · omega
    · have e51 : kk = 51 ∧ ya g = 3 := by
        rcases hz with ⟨z, _⟩ | ⟨z, _⟩ | z
        · omega
        · omega
        · exact z
      unfold wY_start_115
      refine br_t (by rw [e51.1]; rfl) ?_
      unfold wpY_startFold
      dsimp only
      rw [eg']
      exact ⟨hin, br_t e51.2 (yr_tell ea hp)⟩
theorem ys_fold0 {yma ypo yhe yvm : Int32} {yin : Int64} {yfi yde yap yas yto : Int32} {yan : Int64} {yco yti yna yac yen yic : Int32} {o l kS d : Nat → Int32} {pl ys : Nat → Int64} {yk yn yp yf yo : Nat → Int32} {yi : Nat → Int64} {yw ya y1 y2 : Nat → Int32} {yK : Nat → Int64} {yW : Nat → Int32} {yL : Nat → Int64} {yq nm : Nat → Int32} {nv : Nat → Int64} {no : Nat → Int32} {yA lf rt : Nat → Int64} {iK iN : Nat → Int32} {yma' ypo' yhe' yvm' : Int32} {yin' : Int64} {yfi' yde' yap' yas' yto' : Int32} {yan' : Int64} {yco' yti' yna' yac' yen' yic' : Int32} {o' l' kS' d' : Nat → Int32} {pl' ys' : Nat → Int64} {yk' yn' yp' yf' yo' : Nat → Int32} {yi' : Nat → Int64} {yw' ya' y1' y2' : Nat → Int32} {yK' : Nat → Int64} {yW' : Nat → Int32} {yL' : Nat → Int64} {yq' nm' : Nat → Int32} {nv' : Nat → Int64} {no' : Nat → Int32} {yA' lf' rt' : Nat → Int64} {iK' iN' : Nat → Int32} {post : SY → Prop} {g q : Nat} (hg : g < 600) (eo : yo g = nI q) (hq : q < 40) (ek : yk q = nI 51) (n3 : ¬ ya g = 3)
    (hA : ∀ Q : SY → Prop, Q (yma', ypo', yhe', yvm', yin', yfi', yde', yap', yas', yto', yan', yco', yti', yna', yac', yen', yic', o', l', kS', d', pl', ys', yk', yn', yp', yf', yo', yi', yw', ya', y1', y2', yK', yW', yL', yq', nm', nv', no', yA', lf', rt', iK', iN') → wpY_askSecond Q (yma, ypo, yhe, yvm, yin, yfi, yde, yap, yas, yto, yan, yco, yti, yna, yac, yen, yic, o, l, kS, d, pl, ys, yk, yn, yp, yf, yo, yi, yw, ya, y1, y2, yK, yW, yL, yq, nm, nv, no, yA, lf, rt, iK, iN) (nI g) (nI 1) (yi g) (yw g)) (hp : post (yma', ypo', yhe', yvm', yin', yfi', yde', yap', yas', yto', yan', yco', yti', yna', yac', yen', yic', o', l', kS', d', pl', ys', yk', yn', yp', yf', yo', yi', yw', ya', y1', y2', yK', yW', yL', yq', nm', nv', no', yA', lf', rt', iK', iN')) : wpY_start post (yma, ypo, yhe, yvm, yin, yfi, yde, yap, yas, yto, yan, yco, yti, yna, yac, yen, yic, o, l, kS, d, pl, ys, yk, yn, yp, yf, yo, yi, yw, ya, y1, y2, yK, yW, yL, yq, nm, nv, no, yA, lf, rt, iK, iN) (nI g) := by
  have eg' : (nI g).toNatClampNeg = g := nI_clamp (by omega)
  have hin : vp_in (nI g) 601 := vp_in_nI (by omega) (by omega)
  refine ys_pre hg eo hq ek (by omega) (fun w => absurd w (by omega)) (fun e => absurd e (by omega)) (fun _ w => ?_)
  unfold wY_start_84
  refine br_f (by decide) (br_f (by decide) ?_)
  unfold wY_start_115
  refine br_t rfl ?_
  unfold wpY_startFold
  dsimp only
  rw [eg']
  exact ⟨hin, br_f n3 ⟨hin, hin, hA _ hp⟩⟩
theorem ys_115 {yma ypo yhe yvm : Int32} {yin : Int64} {yfi yde yap yas yto : Int32} {yan : Int64} {yco yti yna yac yen yic : Int32} {o l kS d : Nat → Int32} {pl ys : Nat → Int64} {yk yn yp yf yo : Nat → Int32} {yi : Nat → Int64} {yw ya y1 y2 : Nat → Int32} {yK : Nat → Int64} {yW : Nat → Int32} {yL : Nat → Int64} {yq nm : Nat → Int32} {nv : Nat → Int64} {no : Nat → Int32} {yA lf rt : Nat → Int64} {iK iN : Nat → Int32} {post : SY → Prop} {g q kk : Nat} (hg : g < 600) (eo : yo g = nI q) (hq : q < 40) (ek : yk q = nI kk) (hk : kk < 60) (h21 : 21 ≤ kk) (n22 : kk = 22 → ¬ yW g = yn q) (h : wY_start_115 post (nI g) (nI kk) yma ypo yhe yvm yin yfi yde yap yas yto yan yco yti yna yac yen yic o l kS d pl ys yk yn yp yf yo yi yw ya y1 y2 yK yW yL yq nm nv no yA lf rt iK iN) : wpY_start post (yma, ypo, yhe, yvm, yin, yfi, yde, yap, yas, yto, yan, yco, yti, yna, yac, yen, yic, o, l, kS, d, pl, ys, yk, yn, yp, yf, yo, yi, yw, ya, y1, y2, yK, yW, yL, yq, nm, nv, no, yA, lf, rt, iK, iN) (nI g) := by
  have eg' : (nI g).toNatClampNeg = g := nI_clamp (by omega)
  have hin : vp_in (nI g) 601 := vp_in_nI (by omega) (by omega)
  refine ys_pre hg eo hq ek hk (fun w => absurd w (by omega)) (fun e => absurd e (by omega)) (fun _ w => ?_)
  unfold wY_start_84
  rw [eg']
  exact br_f (fun z => absurd ((nI_eq (b := 20) (by omega) (by omega)).mp z) (by omega)) (pk_eq kk 22 (fun e => ⟨hin, br_f (n22 e) h⟩) (fun _ => h))
theorem ys_second {yma ypo yhe yvm : Int32} {yin : Int64} {yfi yde yap yas yto : Int32} {yan : Int64} {yco yti yna yac yen yic : Int32} {o l kS d : Nat → Int32} {pl ys : Nat → Int64} {yk yn yp yf yo : Nat → Int32} {yi : Nat → Int64} {yw ya y1 y2 : Nat → Int32} {yK : Nat → Int64} {yW : Nat → Int32} {yL : Nat → Int64} {yq nm : Nat → Int32} {nv : Nat → Int64} {no : Nat → Int32} {yA lf rt : Nat → Int64} {iK iN : Nat → Int32} {post : SY → Prop} {g q kk a f : Nat} (hg : g < 600) (eo : yo g = nI q) (hq : q < 40) (ek : yk q = nI kk) (hk : kk < 51) (h29 : 29 < kk) (e2 : y2 g = nI f) (hf : f < 600) (ea : yas = nI a) (ha : a < 602)
    (hp : post (yma, ypo, yhe, yvm, yin, yfi, yde, yap, (nI (a + 1)), yto, yan, yco, yti, yna, yac, yen, yic, o, l, kS, d, pl, ys, yk, yn, yp, yf, yo, yi, yw, ya, y1, y2, yK, yW, yL, (upd yq a (nI f)), nm, nv, no, yA, lf, rt, iK, iN)) : wpY_start post (yma, ypo, yhe, yvm, yin, yfi, yde, yap, yas, yto, yan, yco, yti, yna, yac, yen, yic, o, l, kS, d, pl, ys, yk, yn, yp, yf, yo, yi, yw, ya, y1, y2, yK, yW, yL, yq, nm, nv, no, yA, lf, rt, iK, iN) (nI g) := by
  have eg' : (nI g).toNatClampNeg = g := nI_clamp (by omega)
  have hin : vp_in (nI g) 601 := vp_in_nI (by omega) (by omega)
  refine ys_115 hg eo hq ek (by omega) (by omega) (fun e => absurd e (by omega)) ?_
  unfold wY_start_115
  rw [eg', e2]
  exact br_f (fun z => absurd ((nI_eq (b := 51) (by omega) (by omega)).mp z) (by omega)) (br_f (nI_ge (a := 29) h29 (by omega)) ⟨hin, br_f (nI_pos (by omega)) ⟨hin, yr_askAgain ea ha hp⟩⟩)
theorem ys_first {yma ypo yhe yvm : Int32} {yin : Int64} {yfi yde yap yas yto : Int32} {yan : Int64} {yco yti yna yac yen yic : Int32} {o l kS d : Nat → Int32} {pl ys : Nat → Int64} {yk yn yp yf yo : Nat → Int32} {yi : Nat → Int64} {yw ya y1 y2 : Nat → Int32} {yK : Nat → Int64} {yW : Nat → Int32} {yL : Nat → Int64} {yq nm : Nat → Int32} {nv : Nat → Int64} {no : Nat → Int32} {yA lf rt : Nat → Int64} {iK iN : Nat → Int32} {yma' ypo' yhe' yvm' : Int32} {yin' : Int64} {yfi' yde' yap' yas' yto' : Int32} {yan' : Int64} {yco' yti' yna' yac' yen' yic' : Int32} {o' l' kS' d' : Nat → Int32} {pl' ys' : Nat → Int64} {yk' yn' yp' yf' yo' : Nat → Int32} {yi' : Nat → Int64} {yw' ya' y1' y2' : Nat → Int32} {yK' : Nat → Int64} {yW' : Nat → Int32} {yL' : Nat → Int64} {yq' nm' : Nat → Int32} {nv' : Nat → Int64} {no' : Nat → Int32} {yA' lf' rt' : Nat → Int64} {iK' iN' : Nat → Int32} {post : SY → Prop} {g q kk : Nat} (hg : g < 600) (eo : yo g = nI q) (hq : q < 40) (ek : yk q = nI kk) (hk : kk < 51) (h21 : 21 ≤ kk) (n22 : kk = 22 → ¬ yW g = yn q) (e2 : 29 < kk → y2 g = -1)
    (hA : ∀ Q : SY → Prop, Q (yma', ypo', yhe', yvm', yin', yfi', yde', yap', yas', yto', yan', yco', yti', yna', yac', yen', yic', o', l', kS', d', pl', ys', yk', yn', yp', yf', yo', yi', yw', ya', y1', y2', yK', yW', yL', yq', nm', nv', no', yA', lf', rt', iK', iN') → wpY_askFirst Q (yma, ypo, yhe, yvm, yin, yfi, yde, yap, yas, yto, yan, yco, yti, yna, yac, yen, yic, o, l, kS, d, pl, ys, yk, yn, yp, yf, yo, yi, yw, ya, y1, y2, yK, yW, yL, yq, nm, nv, no, yA, lf, rt, iK, iN) (nI g)) (hp : post (yma', ypo', yhe', yvm', yin', yfi', yde', yap', yas', yto', yan', yco', yti', yna', yac', yen', yic', o', l', kS', d', pl', ys', yk', yn', yp', yf', yo', yi', yw', ya', y1', y2', yK', yW', yL', yq', nm', nv', no', yA', lf', rt', iK', iN')) : wpY_start post (yma, ypo, yhe, yvm, yin, yfi, yde, yap, yas, yto, yan, yco, yti, yna, yac, yen, yic, o, l, kS, d, pl, ys, yk, yn, yp, yf, yo, yi, yw, ya, y1, y2, yK, yW, yL, yq, nm, nv, no, yA, lf, rt, iK, iN) (nI g) := by
  have eg' : (nI g).toNatClampNeg = g := nI_clamp (by omega)
  have hin : vp_in (nI g) 601 := vp_in_nI (by omega) (by omega)
  have k157 : wY_start_157 post (nI g) yma ypo yhe yvm yin yfi yde yap yas yto yan yco yti yna yac yen yic o l kS d pl ys yk yn yp yf yo yi yw ya y1 y2 yK yW yL yq nm nv no yA lf rt iK iN := by
    unfold wY_start_157
    exact hA _ hp
  refine ys_115 hg eo hq ek (by omega) h21 n22 ?_
  unfold wY_start_115
  rw [eg']
  exact br_f (fun z => absurd ((nI_eq (b := 51) (by omega) (by omega)).mp z) (by omega)) (pk_le kk 29 (fun _ => k157) (fun w => ⟨hin, br_t (by rw [e2 w]; decide) k157⟩))
end
section
/-! ===== Y goes on ===== -/
theorem up_self (f : Nat → Int32) (k : Nat) : upd f k (f k) = f := by
  funext j
  by_cases e : j = k
  · subst e; rw [pk_us]
  · rw [pk_un e]
theorem upL_self (f : Nat → Int64) (k : Nat) : vp_updL f k (f k) = f := by
  funext j
  by_cases e : j = k
  · subst e; rw [pk_uLs]
  · rw [pk_uLn e]
theorem yg_pre {yma ypo yhe yvm : Int32} {yin : Int64} {yfi yde yap yas yto : Int32} {yan : Int64} {yco yti yna yac yen yic : Int32} {o l kS d : Nat → Int32} {pl ys : Nat → Int64} {yk yn yp yf yo : Nat → Int32} {yi : Nat → Int64} {yw ya y1 y2 : Nat → Int32} {yK : Nat → Int64} {yW : Nat → Int32} {yL : Nat → Int64} {yq nm : Nat → Int32} {nv : Nat → Int64} {no : Nat → Int32} {yA lf rt : Nat → Int64} {iK iN : Nat → Int32} {post : SY → Prop} {g q kk : Nat} (hg : g < 600) (eo : yo g = nI q) (hq : q < 40) (ek : yk q = nI kk) (hk : kk < 60)
    (h1 : kk < 30 → wpY_goOnOne (fun u => match u with | (yma', ypo', yhe', yvm', yin', yfi', yde', yap', yas', yto', yan', yco', yti', yna', yac', yen', yic', o', l', kS', d', pl', ys', yk', yn', yp', yf', yo', yi', yw', ya', y1', y2', yK', yW', yL', yq', nm', nv', no', yA', lf', rt', iK', iN') => post (yma', ypo', yhe', yvm', yin', yfi', yde', yap', yas', yto', yan', yco', yti', yna', yac', yen', yic', o', l', kS', d', pl', ys', yk', yn', yp', yf', yo', yi', yw', ya', y1', y2', yK', yW', yL', yq', nm', nv', no', yA', lf', rt', iK', iN')) (yma, ypo, yhe, yvm, yin, yfi, yde, yap, yas, yto, yan, yco, yti, yna, yac, yen, yic, o, l, kS, d, pl, ys, yk, yn, yp, yf, yo, yi, yw, ya, y1, y2, yK, yW, yL, yq, nm, nv, no, yA, lf, rt, iK, iN) (nI g) (nI kk)) (h51 : kk = 51 → wpY_goOnFold (fun u => match u with | (yma', ypo', yhe', yvm', yin', yfi', yde', yap', yas', yto', yan', yco', yti', yna', yac', yen', yic', o', l', kS', d', pl', ys', yk', yn', yp', yf', yo', yi', yw', ya', y1', y2', yK', yW', yL', yq', nm', nv', no', yA', lf', rt', iK', iN') => post (yma', ypo', yhe', yvm', yin', yfi', yde', yap', yas', yto', yan', yco', yti', yna', yac', yen', yic', o', l', kS', d', pl', ys', yk', yn', yp', yf', yo', yi', yw', ya', y1', y2', yK', yW', yL', yq', nm', nv', no', yA', lf', rt', iK', iN')) (yma, ypo, yhe, yvm, yin, yfi, yde, yap, yas, yto, yan, yco, yti, yna, yac, yen, yic, o, l, kS, d, pl, ys, yk, yn, yp, yf, yo, yi, yw, ya, y1, y2, yK, yW, yL, yq, nm, nv, no, yA, lf, rt, iK, iN) (nI g))
    (hf : 30 ≤ kk → kk ≠ 51 → y2 g < 0 → wpY_goOnFirst (fun u => match u with | (yma', ypo', yhe', yvm', yin', yfi', yde', yap', yas', yto', yan', yco', yti', yna', yac', yen', yic', o', l', kS', d', pl', ys', yk', yn', yp', yf', yo', yi', yw', ya', y1', y2', yK', yW', yL', yq', nm', nv', no', yA', lf', rt', iK', iN') => post (yma', ypo', yhe', yvm', yin', yfi', yde', yap', yas', yto', yan', yco', yti', yna', yac', yen', yic', o', l', kS', d', pl', ys', yk', yn', yp', yf', yo', yi', yw', ya', y1', y2', yK', yW', yL', yq', nm', nv', no', yA', lf', rt', iK', iN')) (yma, ypo, yhe, yvm, yin, yfi, yde, yap, yas, yto, yan, yco, yti, yna, yac, yen, yic, o, l, kS, d, pl, ys, yk, yn, yp, yf, yo, yi, yw, ya, y1, y2, yK, yW, yL, yq, nm, nv, no, yA, lf, rt, iK, iN) (nI g) (nI kk)) (hs : 30 ≤ kk → kk ≠ 51 → ¬ y2 g < 0 → wpY_goOnSecond (fun u => match u with | (yma', ypo', yhe', yvm', yin', yfi', yde', yap', yas', yto', yan', yco', yti', yna', yac', yen', yic', o', l', kS', d', pl', ys', yk', yn', yp', yf', yo', yi', yw', ya', y1', y2', yK', yW', yL', yq', nm', nv', no', yA', lf', rt', iK', iN') => post (yma', ypo', yhe', yvm', yin', yfi', yde', yap', yas', yto', yan', yco', yti', yna', yac', yen', yic', o', l', kS', d', pl', ys', yk', yn', yp', yf', yo', yi', yw', ya', y1', y2', yK', yW', yL', yq', nm', nv', no', yA', lf', rt', iK', iN')) (yma, ypo, yhe, yvm, yin, yfi, yde, yap, yas, yto, yan, yco, yti, yna, yac, yen, yic, o, l, kS, d, pl, ys, yk, yn, yp, yf, yo, yi, yw, ya, y1, y2, yK, yW, yL, yq, nm, nv, no, yA, lf, rt, iK, iN) (nI g) (nI kk)) : wpY_goOn post (yma, ypo, yhe, yvm, yin, yfi, yde, yap, yas, yto, yan, yco, yti, yna, yac, yen, yic, o, l, kS, d, pl, ys, yk, yn, yp, yf, yo, yi, yw, ya, y1, y2, yK, yW, yL, yq, nm, nv, no, yA, lf, rt, iK, iN) (nI g) := by
  have eg' : (nI g).toNatClampNeg = g := nI_clamp (by omega)
  have hin : vp_in (nI g) 601 := vp_in_nI (by omega) (by omega)
  have hiq : vp_in (nI q) 40 := vp_in_nI hq (by omega)
  unfold wpY_goOn
  dsimp only
  rw [eg', eo, nI_clamp (show q < 2 ^ 31 by omega), ek]
  exact ⟨hin, hiq, nm_e (pk_le 30 kk (fun w => pk_eq kk 51 (fun e => h51 e) (fun ne => ⟨hin, br_c (fun z => hf w ne z) (fun z => hs w ne z)⟩)) (fun w => h1 w))⟩
theorem yg_all2 {yma ypo yhe yvm : Int32} {yin : Int64} {yfi yde yap yas yto : Int32} {yan : Int64} {yco yti yna yac yen yic : Int32} {o l kS d : Nat → Int32} {pl ys : Nat → Int64} {yk yn yp yf yo : Nat → Int32} {yi : Nat → Int64} {yw ya y1 y2 : Nat → Int32} {yK : Nat → Int64} {yW : Nat → Int32} {yL : Nat → Int64} {yq nm : Nat → Int32} {nv : Nat → Int64} {no : Nat → Int32} {yA lf rt : Nat → Int64} {iK iN : Nat → Int32} {post : SY → Prop} {g q : Nat} (hg : g < 600) (eo : yo g = nI q) (hq : q < 40) (ek : yk q = nI 20) {a : Nat} (ea : yas = nI (a + 1)) (et : yto = 2) (hp : post (yma, ypo, yhe, yvm, yin, yfi, yde, yap, (nI a), 2, 0, yco, yti, yna, yac, yen, yic, o, l, kS, d, pl, ys, yk, yn, yp, yf, yo, yi, yw, ya, y1, y2, yK, yW, yL, yq, nm, nv, no, yA, lf, rt, iK, iN)) : wpY_goOn post (yma, ypo, yhe, yvm, yin, yfi, yde, yap, yas, yto, yan, yco, yti, yna, yac, yen, yic, o, l, kS, d, pl, ys, yk, yn, yp, yf, yo, yi, yw, ya, y1, y2, yK, yW, yL, yq, nm, nv, no, yA, lf, rt, iK, iN) (nI g) := by
  have eg' : (nI g).toNatClampNeg = g := nI_clamp (by omega)
  have hin : vp_in (nI g) 601 := vp_in_nI (by omega) (by omega)
  have hiq : vp_in (nI q) 40 := vp_in_nI hq (by omega)
  refine yg_pre hg eo hq ek (by omega) (fun _ => ?_) (fun e => absurd e (by omega)) (fun w => absurd w (by omega)) (fun w => absurd w (by omega))
  unfold wpY_goOnOne
  dsimp only
  rw [eg', eo, nI_clamp (show q < 2 ^ 31 by omega)]
  refine ⟨hin, hiq, nm_e ?_⟩
  refine br_t rfl ?_
  unfold wpY_goOnAll
  dsimp only
  rw [eg']
  exact ⟨hin, nm_e (br_t et (yr_tell ea hp))⟩
theorem yg_all0 {yma ypo yhe yvm : Int32} {yin : Int64} {yfi yde yap yas yto : Int32} {yan : Int64} {yco yti yna yac yen yic : Int32} {o l kS d : Nat → Int32} {pl ys : Nat → Int64} {yk yn yp yf yo : Nat → Int32} {yi : Nat → Int64} {yw ya y1 y2 : Nat → Int32} {yK : Nat → Int64} {yW : Nat → Int32} {yL : Nat → Int64} {yq nm : Nat → Int32} {nv : Nat → Int64} {no : Nat → Int32} {yA lf rt : Nat → Int64} {iK iN : Nat → Int32} {post : SY → Prop} {g q : Nat} (hg : g < 600) (eo : yo g = nI q) (hq : q < 40) (ek : yk q = nI 20) {a : Nat} (ea : yas = nI (a + 1)) {b w e f : Nat} (ha : a < 600) (et : yto = 0) (eF : ya g = nI (b + 1)) (hb : b + 10 ≤ 8200) (eW : yW g = nI w) (hw : w ≤ 10) (hd : yd_is d yan e) (e1 : y1 g = nI f) (h2 : w = 10 ∨ e = 4 → post (yma, ypo, yhe, yvm, yin, yfi, yde, yap, (nI a), 2, 0, yco, yti, yna, yac, yen, yic, o, l, kS, d, pl, ys, yk, yn, yp, yf, yo, yi, yw, ya, y1, y2, yK, yW, yL, yq, nm, nv, no, yA, lf, rt, iK, iN)) (h0 : w < 10 → e < 4 → post (yma, ypo, yhe, yvm, yin, yfi, yde, yap, (nI (a + 2)), yto, yan, yco, yti, yna, yac, yen, yic, o, l, kS, d, (vp_updL pl (b + w) yan), ys, yk, yn, yp, yf, yo, yi, yw, ya, y1, y2, yK, (upd yW g (nI (w + 1))), yL, (upd yq (a + 1) (nI f)), nm, nv, no, yA, lf, rt, iK, iN)) : wpY_goOn post (yma, ypo, yhe, yvm, yin, yfi, yde, yap, yas, yto, yan, yco, yti, yna, yac, yen, yic, o, l, kS, d, pl, ys, yk, yn, yp, yf, yo, yi, yw, ya, y1, y2, yK, yW, yL, yq, nm, nv, no, yA, lf, rt, iK, iN) (nI g) := by
  have eg' : (nI g).toNatClampNeg = g := nI_clamp (by omega)
  have hin : vp_in (nI g) 601 := vp_in_nI (by omega) (by omega)
  have hiq : vp_in (nI q) 40 := vp_in_nI hq (by omega)
  refine yg_pre hg eo hq ek (by omega) (fun _ => ?_) (fun e => absurd e (by omega)) (fun w => absurd w (by omega)) (fun w => absurd w (by omega))
  unfold wpY_goOnOne
  dsimp only
  rw [eg', eo, nI_clamp (show q < 2 ^ 31 by omega)]
  refine ⟨hin, hiq, nm_e ?_⟩
  refine br_t rfl ?_
  unfold wpY_goOnAll
  dsimp only
  rw [eg']
  rw [eF, eW, e1]
  refine ⟨hin, nm_r (nI_pred b) (br_f (by rw [et]; decide) (br_t et ⟨hin, ?_⟩))⟩
  have k56 : (w = 10 ∨ e = 4) → wY_goOnAll_56 (fun u => match u with | (yma', ypo', yhe', yvm', yin', yfi', yde', yap', yas', yto', yan', yco', yti', yna', yac', yen', yic', o', l', kS', d', pl', ys', yk', yn', yp', yf', yo', yi', yw', ya', y1', y2', yK', yW', yL', yq', nm', nv', no', yA', lf', rt', iK', iN') => post (yma', ypo', yhe', yvm', yin', yfi', yde', yap', yas', yto', yan', yco', yti', yna', yac', yen', yic', o', l', kS', d', pl', ys', yk', yn', yp', yf', yo', yi', yw', ya', y1', y2', yK', yW', yL', yq', nm', nv', no', yA', lf', rt', iK', iN')) yma ypo yhe yvm yin yfi yde yap yas yto yan yco yti yna yac yen yic o l kS d pl ys yk yn yp yf yo yi yw ya y1 y2 yK yW yL yq nm nv no yA lf rt iK iN := by
    intro z
    unfold wY_goOnAll_56
    exact yr_tell ea (h2 z)
  refine pk_eq w 10 (fun z => k56 (Or.inl z)) (fun n10 => ym_depthOf hd ?_)
  have h4 := hd.1
  refine pk_eq e 4 (fun z => k56 (Or.inr z)) (fun n4 => ?_)
  rw [nI_add, nI_clamp (show b + w < 2 ^ 31 by omega), nI_1]
  exact ⟨hin, vp_in_nI (by omega) (by omega), nm_e ⟨hin, hin, nm_e ⟨hin, yr_askAgain ea (by omega) (h0 (by omega) (by omega))⟩⟩⟩
theorem yg_all1 {yma ypo yhe yvm : Int32} {yin : Int64} {yfi yde yap yas yto : Int32} {yan : Int64} {yco yti yna yac yen yic : Int32} {o l kS d : Nat → Int32} {pl ys : Nat → Int64} {yk yn yp yf yo : Nat → Int32} {yi : Nat → Int64} {yw ya y1 y2 : Nat → Int32} {yK : Nat → Int64} {yW : Nat → Int32} {yL : Nat → Int64} {yq nm : Nat → Int32} {nv : Nat → Int64} {no : Nat → Int32} {yA lf rt : Nat → Int64} {iK iN : Nat → Int32} {post : SY → Prop} {g q : Nat} (hg : g < 600) (eo : yo g = nI q) (hq : q < 40) (ek : yk q = nI 20) {a : Nat} (ea : yas = nI (a + 1)) {b w mk : Nat} {e : Nat → Nat} (et : yto = 1) (eF : ya g = nI (b + 1)) (hb : b + 10 ≤ 8200) (eW : yW g = nI w) (hw : w ≤ 10) (em : yma = nI mk) (hm : mk < 760) (hc : ∀ i, i < w → yd_is d (pl (b + i)) (e i)) (hp : post ((nI (mk + 1)), ypo, yhe, yvm, yin, yfi, yde, yap, (nI a), 0, (yy_t 4 (nI mk)), yco, yti, yna, yac, yen, yic, (upd o mk (nI b)), (upd l mk (nI w)), (upd kS mk 0), (upd d mk (nI (vv_mx e w + 1))), pl, ys, yk, yn, yp, yf, yo, yi, yw, ya, y1, y2, yK, yW, yL, yq, nm, nv, no, yA, lf, rt, iK, iN)) : wpY_goOn post (yma, ypo, yhe, yvm, yin, yfi, yde, yap, yas, yto, yan, yco, yti, yna, yac, yen, yic, o, l, kS, d, pl, ys, yk, yn, yp, yf, yo, yi, yw, ya, y1, y2, yK, yW, yL, yq, nm, nv, no, yA, lf, rt, iK, iN) (nI g) := by
  have eg' : (nI g).toNatClampNeg = g := nI_clamp (by omega)
  have hin : vp_in (nI g) 601 := vp_in_nI (by omega) (by omega)
  have hiq : vp_in (nI q) 40 := vp_in_nI hq (by omega)
  refine yg_pre hg eo hq ek (by omega) (fun _ => ?_) (fun e => absurd e (by omega)) (fun w => absurd w (by omega)) (fun w => absurd w (by omega))
  unfold wpY_goOnOne
  dsimp only
  rw [eg', eo, nI_clamp (show q < 2 ^ 31 by omega)]
  refine ⟨hin, hiq, nm_e ?_⟩
  refine br_t rfl ?_
  unfold wpY_goOnAll
  dsimp only
  rw [eg']
  rw [eF, eW]
  refine ⟨hin, nm_r (nI_pred b) (br_f (by rw [et]; decide) (br_f (by rw [et]; decide) ⟨hin, ?_⟩))⟩
  exact ym_compose (κ := 4) (e := e) em hm (by omega) hw (by omega) hc (yr_tell ea hp)
theorem yg_try {yma ypo yhe yvm : Int32} {yin : Int64} {yfi yde yap yas yto : Int32} {yan : Int64} {yco yti yna yac yen yic : Int32} {o l kS d : Nat → Int32} {pl ys : Nat → Int64} {yk yn yp yf yo : Nat → Int32} {yi : Nat → Int64} {yw ya y1 y2 : Nat → Int32} {yK : Nat → Int64} {yW : Nat → Int32} {yL : Nat → Int64} {yq nm : Nat → Int32} {nv : Nat → Int64} {no : Nat → Int32} {yA lf rt : Nat → Int64} {iK iN : Nat → Int32} {post : SY → Prop} {g q : Nat} (hg : g < 600) (eo : yo g = nI q) (hq : q < 40) (ek : yk q = nI 21) {a : Nat} (ea : yas = nI (a + 1)) {t : Int32} (ht : (yto = 2 → t = 1) ∧ (¬ yto = 2 → t = yto)) (hp : post (yma, ypo, yhe, yvm, yin, yfi, yde, yap, (nI a), t, yan, yco, yti, yna, yac, yen, yic, o, l, kS, d, pl, ys, yk, yn, yp, yf, yo, yi, yw, ya, y1, y2, yK, yW, yL, yq, nm, nv, no, yA, lf, rt, iK, iN)) : wpY_goOn post (yma, ypo, yhe, yvm, yin, yfi, yde, yap, yas, yto, yan, yco, yti, yna, yac, yen, yic, o, l, kS, d, pl, ys, yk, yn, yp, yf, yo, yi, yw, ya, y1, y2, yK, yW, yL, yq, nm, nv, no, yA, lf, rt, iK, iN) (nI g) := by
  have eg' : (nI g).toNatClampNeg = g := nI_clamp (by omega)
  have hin : vp_in (nI g) 601 := vp_in_nI (by omega) (by omega)
  have hiq : vp_in (nI q) 40 := vp_in_nI hq (by omega)
  refine yg_pre hg eo hq ek (by omega) (fun _ => ?_) (fun e => absurd e (by omega)) (fun w => absurd w (by omega)) (fun w => absurd w (by omega))
  unfold wpY_goOnOne
  dsimp only
  rw [eg', eo, nI_clamp (show q < 2 ^ 31 by omega)]
  refine ⟨hin, hiq, nm_e ?_⟩
  refine br_f (by decide) (br_t rfl (br_c (fun z => ?_) (fun z => ?_)))
  · rw [ht.1 z] at hp
    unfold wY_goOnOne_49
    exact yr_tell ea hp
  · rw [ht.2 z] at hp
    unfold wY_goOnOne_49
    exact yr_tell ea hp
theorem yg_first {yma ypo yhe yvm : Int32} {yin : Int64} {yfi yde yap yas yto : Int32} {yan : Int64} {yco yti yna yac yen yic : Int32} {o l kS d : Nat → Int32} {pl ys : Nat → Int64} {yk yn yp yf yo : Nat → Int32} {yi : Nat → Int64} {yw ya y1 y2 : Nat → Int32} {yK : Nat → Int64} {yW : Nat → Int32} {yL : Nat → Int64} {yq nm : Nat → Int32} {nv : Nat → Int64} {no : Nat → Int32} {yA lf rt : Nat → Int64} {iK iN : Nat → Int32} {post : SY → Prop} {g q : Nat} (hg : g < 600) (eo : yo g = nI q) (hq : q < 40) (ek : yk q = nI 22) {a : Nat} (ea : yas = nI (a + 1)) {w : Nat} (eW : yW g = nI w) (h0 : yto = 0 → post (yma, ypo, yhe, yvm, yin, yfi, yde, yap, (nI a), yto, yan, yco, yti, yna, yac, yen, yic, o, l, kS, d, pl, ys, yk, yn, yp, yf, yo, yi, yw, ya, y1, y2, yK, (upd yW g (nI (w + 1))), yL, yq, nm, nv, no, yA, lf, rt, iK, iN)) (h1 : ¬ yto = 0 → post (yma, ypo, yhe, yvm, yin, yfi, yde, yap, (nI a), yto, yan, yco, yti, yna, yac, yen, yic, o, l, kS, d, pl, ys, yk, yn, yp, yf, yo, yi, yw, ya, y1, y2, yK, yW, yL, yq, nm, nv, no, yA, lf, rt, iK, iN)) : wpY_goOn post (yma, ypo, yhe, yvm, yin, yfi, yde, yap, yas, yto, yan, yco, yti, yna, yac, yen, yic, o, l, kS, d, pl, ys, yk, yn, yp, yf, yo, yi, yw, ya, y1, y2, yK, yW, yL, yq, nm, nv, no, yA, lf, rt, iK, iN) (nI g) := by
  have eg' : (nI g).toNatClampNeg = g := nI_clamp (by omega)
  have hin : vp_in (nI g) 601 := vp_in_nI (by omega) (by omega)
  have hiq : vp_in (nI q) 40 := vp_in_nI hq (by omega)
  refine yg_pre hg eo hq ek (by omega) (fun _ => ?_) (fun e => absurd e (by omega)) (fun w => absurd w (by omega)) (fun w => absurd w (by omega))
  unfold wpY_goOnOne
  dsimp only
  rw [eg', eo, nI_clamp (show q < 2 ^ 31 by omega)]
  refine ⟨hin, hiq, nm_e ?_⟩
  refine br_f (by decide) (br_f (by decide) (br_t rfl (br_c (fun z => ⟨hin, ?_⟩) (fun z => ⟨hin, ?_⟩))))
  · unfold wY_goOnOne_94
    rw [eg', eW, nI_1]
    exact ⟨hin, nm_e (yr_tell ea (h0 z))⟩
  · unfold wY_goOnOne_94
    rw [eg', up_self]
    exact ⟨hin, nm_e (yr_tell ea (h1 z))⟩
theorem yg_23e {yma ypo yhe yvm : Int32} {yin : Int64} {yfi yde yap yas yto : Int32} {yan : Int64} {yco yti yna yac yen yic : Int32} {o l kS d : Nat → Int32} {pl ys : Nat → Int64} {yk yn yp yf yo : Nat → Int32} {yi : Nat → Int64} {yw ya y1 y2 : Nat → Int32} {yK : Nat → Int64} {yW : Nat → Int32} {yL : Nat → Int64} {yq nm : Nat → Int32} {nv : Nat → Int64} {no : Nat → Int32} {yA lf rt : Nat → Int64} {iK iN : Nat → Int32} {post : SY → Prop} {g q : Nat} (hg : g < 600) (eo : yo g = nI q) (hq : q < 40) (ek : yk q = nI 23) {a : Nat} (ea : yas = nI (a + 1)) (et : ¬ yto = 0) (hp : post (yma, ypo, yhe, yvm, yin, yfi, yde, yap, (nI a), yto, 0, yco, yti, yna, yac, yen, yic, o, l, kS, d, pl, ys, yk, yn, yp, yf, yo, yi, yw, ya, y1, y2, yK, yW, yL, yq, nm, nv, no, yA, lf, rt, iK, iN)) : wpY_goOn post (yma, ypo, yhe, yvm, yin, yfi, yde, yap, yas, yto, yan, yco, yti, yna, yac, yen, yic, o, l, kS, d, pl, ys, yk, yn, yp, yf, yo, yi, yw, ya, y1, y2, yK, yW, yL, yq, nm, nv, no, yA, lf, rt, iK, iN) (nI g) := by
  have eg' : (nI g).toNatClampNeg = g := nI_clamp (by omega)
  have hin : vp_in (nI g) 601 := vp_in_nI (by omega) (by omega)
  have hiq : vp_in (nI q) 40 := vp_in_nI hq (by omega)
  refine yg_pre hg eo hq ek (by omega) (fun _ => ?_) (fun e => absurd e (by omega)) (fun w => absurd w (by omega)) (fun w => absurd w (by omega))
  unfold wpY_goOnOne
  dsimp only
  rw [eg', eo, nI_clamp (show q < 2 ^ 31 by omega)]
  refine ⟨hin, hiq, nm_e ?_⟩
  exact br_f (by decide) (br_f (by decide) (br_f (by decide) (br_f et (yr_tell ea hp))))
theorem yg_24e {yma ypo yhe yvm : Int32} {yin : Int64} {yfi yde yap yas yto : Int32} {yan : Int64} {yco yti yna yac yen yic : Int32} {o l kS d : Nat → Int32} {pl ys : Nat → Int64} {yk yn yp yf yo : Nat → Int32} {yi : Nat → Int64} {yw ya y1 y2 : Nat → Int32} {yK : Nat → Int64} {yW : Nat → Int32} {yL : Nat → Int64} {yq nm : Nat → Int32} {nv : Nat → Int64} {no : Nat → Int32} {yA lf rt : Nat → Int64} {iK iN : Nat → Int32} {post : SY → Prop} {g q : Nat} (hg : g < 600) (eo : yo g = nI q) (hq : q < 40) (ek : yk q = nI 24) {a : Nat} (ea : yas = nI (a + 1)) (et : ¬ yto = 0) (hp : post (yma, ypo, yhe, yvm, yin, yfi, yde, yap, (nI a), yto, 0, yco, yti, yna, yac, yen, yic, o, l, kS, d, pl, ys, yk, yn, yp, yf, yo, yi, yw, ya, y1, y2, yK, yW, yL, yq, nm, nv, no, yA, lf, rt, iK, iN)) : wpY_goOn post (yma, ypo, yhe, yvm, yin, yfi, yde, yap, yas, yto, yan, yco, yti, yna, yac, yen, yic, o, l, kS, d, pl, ys, yk, yn, yp, yf, yo, yi, yw, ya, y1, y2, yK, yW, yL, yq, nm, nv, no, yA, lf, rt, iK, iN) (nI g) := by
  have eg' : (nI g).toNatClampNeg = g := nI_clamp (by omega)
  have hin : vp_in (nI g) 601 := vp_in_nI (by omega) (by omega)
  have hiq : vp_in (nI q) 40 := vp_in_nI hq (by omega)
  refine yg_pre hg eo hq ek (by omega) (fun _ => ?_) (fun e => absurd e (by omega)) (fun w => absurd w (by omega)) (fun w => absurd w (by omega))
  unfold wpY_goOnOne
  dsimp only
  rw [eg', eo, nI_clamp (show q < 2 ^ 31 by omega)]
  refine ⟨hin, hiq, nm_e ?_⟩
  exact br_f (by decide) (br_f (by decide) (br_f (by decide) (br_f et (yr_tell ea hp))))
theorem yg_keep {yma ypo yhe yvm : Int32} {yin : Int64} {yfi yde yap yas yto : Int32} {yan : Int64} {yco yti yna yac yen yic : Int32} {o l kS d : Nat → Int32} {pl ys : Nat → Int64} {yk yn yp yf yo : Nat → Int32} {yi : Nat → Int64} {yw ya y1 y2 : Nat → Int32} {yK : Nat → Int64} {yW : Nat → Int32} {yL : Nat → Int64} {yq nm : Nat → Int32} {nv : Nat → Int64} {no : Nat → Int32} {yA lf rt : Nat → Int64} {iK iN : Nat → Int32} {post : SY → Prop} {g q : Nat} (hg : g < 600) (eo : yo g = nI q) (hq : q < 40) (ek : yk q = nI 23) {a : Nat} (ea : yas = nI (a + 1)) {f κ : Nat} {x : Int32} (ha : a < 600) (et : yto = 0) (ew : yan = yy_t κ x) (hκ : κ ≤ 5) (e1 : y1 g = nI f) (h0 : 2 ≤ κ → post (yma, ypo, yhe, yvm, yin, yfi, yde, yap, (nI a), 0, (yi g), yco, yti, yna, yac, yen, yic, o, l, kS, d, pl, ys, yk, yn, yp, yf, yo, yi, yw, ya, y1, y2, yK, yW, yL, yq, nm, nv, no, yA, lf, rt, iK, iN)) (h1 : κ < 2 → post (yma, ypo, yhe, yvm, yin, yfi, yde, yap, (nI (a + 2)), yto, yan, yco, yti, yna, yac, yen, yic, o, l, kS, d, pl, ys, yk, yn, yp, yf, yo, yi, yw, ya, y1, y2, yK, yW, yL, (upd yq (a + 1) (nI f)), nm, nv, no, yA, lf, rt, iK, iN)) : wpY_goOn post (yma, ypo, yhe, yvm, yin, yfi, yde, yap, yas, yto, yan, yco, yti, yna, yac, yen, yic, o, l, kS, d, pl, ys, yk, yn, yp, yf, yo, yi, yw, ya, y1, y2, yK, yW, yL, yq, nm, nv, no, yA, lf, rt, iK, iN) (nI g) := by
  have eg' : (nI g).toNatClampNeg = g := nI_clamp (by omega)
  have hin : vp_in (nI g) 601 := vp_in_nI (by omega) (by omega)
  have hiq : vp_in (nI q) 40 := vp_in_nI hq (by omega)
  refine yg_pre hg eo hq ek (by omega) (fun _ => ?_) (fun e => absurd e (by omega)) (fun w => absurd w (by omega)) (fun w => absurd w (by omega))
  unfold wpY_goOnOne
  dsimp only
  rw [eg', eo, nI_clamp (show q < 2 ^ 31 by omega)]
  refine ⟨hin, hiq, nm_e ?_⟩
  rw [e1]
  refine br_f (by decide) (br_f (by decide) (br_f (by decide) (br_t et (br_t rfl ?_))))
  rw [ew]
  rw [ew] at h1
  exact ym_isEmpty (by omega) (fun w => br_t rfl ⟨hin, yr_tell ea (h0 w)⟩) (fun w => br_f (by decide) ⟨hin, yr_askAgain ea (by omega) (h1 w)⟩)
theorem yg_make {yma ypo yhe yvm : Int32} {yin : Int64} {yfi yde yap yas yto : Int32} {yan : Int64} {yco yti yna yac yen yic : Int32} {o l kS d : Nat → Int32} {pl ys : Nat → Int64} {yk yn yp yf yo : Nat → Int32} {yi : Nat → Int64} {yw ya y1 y2 : Nat → Int32} {yK : Nat → Int64} {yW : Nat → Int32} {yL : Nat → Int64} {yq nm : Nat → Int32} {nv : Nat → Int64} {no : Nat → Int32} {yA lf rt : Nat → Int64} {iK iN : Nat → Int32} {post : SY → Prop} {g q : Nat} (hg : g < 600) (eo : yo g = nI q) (hq : q < 40) (ek : yk q = nI 24) {a : Nat} (ea : yas = nI (a + 1)) {c e pd mk x : Nat} (et : yto = 0) (ec : yco = nI c) (hc : c ≤ 600) (hd : yd_is d yan e) (ep : ypo = nI pd) (hpd : pd + 1 ≤ 8200) (em : yma = nI mk) (hm : mk < 760) (eX : yn q = nI x) (hx : x < 8) (ht : c = 600 → post (yma, ypo, yhe, yvm, yin, yfi, yde, yap, yas, yto, yan, yco, 1, yna, yac, yen, yic, o, l, kS, d, pl, ys, yk, yn, yp, yf, yo, yi, yw, ya, y1, y2, yK, yW, yL, yq, nm, nv, no, yA, lf, rt, iK, iN)) (h2 : c < 600 → e = 4 → post (yma, ypo, yhe, yvm, yin, yfi, yde, yap, (nI a), 2, 0, (nI (c + 1)), yti, yna, yac, yen, yic, o, l, kS, d, pl, ys, yk, yn, yp, yf, yo, yi, yw, ya, y1, y2, yK, yW, yL, yq, nm, nv, no, yA, lf, rt, iK, iN)) (h0 : c < 600 → e < 4 → post ((nI (mk + 1)), (nI (pd + 1)), yhe, yvm, yin, yfi, yde, yap, (nI a), 0, (yy_t 5 (nI mk)), (nI (c + 1)), yti, yna, yac, yen, yic, (upd o mk (nI pd)), (upd l mk (nI 1)), (upd kS mk (nI (2 ^ x))), (upd d mk (nI (e + 1))), (vp_updL pl pd yan), ys, yk, yn, yp, yf, yo, yi, yw, ya, y1, y2, yK, yW, yL, yq, nm, nv, no, yA, lf, rt, iK, iN)) : wpY_goOn post (yma, ypo, yhe, yvm, yin, yfi, yde, yap, yas, yto, yan, yco, yti, yna, yac, yen, yic, o, l, kS, d, pl, ys, yk, yn, yp, yf, yo, yi, yw, ya, y1, y2, yK, yW, yL, yq, nm, nv, no, yA, lf, rt, iK, iN) (nI g) := by
  have eg' : (nI g).toNatClampNeg = g := nI_clamp (by omega)
  have hin : vp_in (nI g) 601 := vp_in_nI (by omega) (by omega)
  have hiq : vp_in (nI q) 40 := vp_in_nI hq (by omega)
  refine yg_pre hg eo hq ek (by omega) (fun _ => ?_) (fun e => absurd e (by omega)) (fun w => absurd w (by omega)) (fun w => absurd w (by omega))
  unfold wpY_goOnOne
  dsimp only
  rw [eg', eo, nI_clamp (show q < 2 ^ 31 by omega)]
  refine ⟨hin, hiq, nm_e ?_⟩
  refine br_f (by decide) (br_f (by decide) (br_f (by decide) (br_t et (br_f (by decide) ?_))))
  by_cases c6 : c = 600
  · subst c6
    exact yr_tired ec (br_t rfl (ht rfl))
  refine yr_count ec (by omega) ?_
  dsimp only
  refine br_f (by decide) (ym_depthOf hd ?_)
  have h4 := hd.1
  refine pk_eq e 4 (fun z => yr_tell ea (h2 (by omega) z)) (fun n4 => ?_)
  rw [ep, nI_clamp (show pd < 2 ^ 31 by omega), eX, xk_1shl hx]
  refine ⟨vp_in_nI (by omega) (by omega), nm_e (nm_r (nI_1 pd) ?_)⟩
  rw [nI_pred]
  refine ym_compose (κ := 5) (b := 1) (e := fun _ => e) em hm (by omega) (by omega) hpd (fun i hi => ?_) ?_
  · have : i = 0 := by omega
    subst this
    rw [Nat.add_zero, pk_uLs]
    exact hd
  · have hmx : vv_mx (fun _ => e) 1 = e := by
      show (if 0 < e then e else 0) = e
      split <;> omega
    rw [hmx]
    exact yr_tell ea (h0 (by omega) (by omega))
theorem yf_30e {yma ypo yhe yvm : Int32} {yin : Int64} {yfi yde yap yas yto : Int32} {yan : Int64} {yco yti yna yac yen yic : Int32} {o l kS d : Nat → Int32} {pl ys : Nat → Int64} {yk yn yp yf yo : Nat → Int32} {yi : Nat → Int64} {yw ya y1 y2 : Nat → Int32} {yK : Nat → Int64} {yW : Nat → Int32} {yL : Nat → Int64} {yq nm : Nat → Int32} {nv : Nat → Int64} {no : Nat → Int32} {yA lf rt : Nat → Int64} {iK iN : Nat → Int32} {post : SY → Prop} {g q : Nat} (hg : g < 600) (eo : yo g = nI q) (hq : q < 40) (ek : yk q = nI 30) (e2 : y2 g = -1) {a : Nat} (ea : yas = nI (a + 1)) (et : ¬ yto = 0) (hp : post (yma, ypo, yhe, yvm, yin, yfi, yde, yap, (nI a), yto, 0, yco, yti, yna, yac, yen, yic, o, l, kS, d, pl, ys, yk, yn, yp, yf, yo, yi, yw, ya, y1, y2, yK, yW, yL, yq, nm, nv, no, yA, lf, rt, iK, iN)) : wpY_goOn post (yma, ypo, yhe, yvm, yin, yfi, yde, yap, yas, yto, yan, yco, yti, yna, yac, yen, yic, o, l, kS, d, pl, ys, yk, yn, yp, yf, yo, yi, yw, ya, y1, y2, yK, yW, yL, yq, nm, nv, no, yA, lf, rt, iK, iN) (nI g) := by
  have eg' : (nI g).toNatClampNeg = g := nI_clamp (by omega)
  have hin : vp_in (nI g) 601 := vp_in_nI (by omega) (by omega)
  have hiq : vp_in (nI q) 40 := vp_in_nI hq (by omega)
  refine yg_pre hg eo hq ek (by omega) (fun w => absurd w (by omega)) (fun e => absurd e (by omega)) (fun _ _ _ => ?_) (fun _ _ w => absurd (by rw [e2]; decide) w)
  unfold wpY_goOnFirst
  dsimp only
  rw [eg', eo, nI_clamp (show q < 2 ^ 31 by omega)]
  refine ⟨hin, nm_e ⟨hin, hiq, nm_e ?_⟩⟩
  exact br_f (by decide) (br_f (by decide) (br_f et (yr_tell ea hp)))
theorem yf_32e {yma ypo yhe yvm : Int32} {yin : Int64} {yfi yde yap yas yto : Int32} {yan : Int64} {yco yti yna yac yen yic : Int32} {o l kS d : Nat → Int32} {pl ys : Nat → Int64} {yk yn yp yf yo : Nat → Int32} {yi : Nat → Int64} {yw ya y1 y2 : Nat → Int32} {yK : Nat → Int64} {yW : Nat → Int32} {yL : Nat → Int64} {yq nm : Nat → Int32} {nv : Nat → Int64} {no : Nat → Int32} {yA lf rt : Nat → Int64} {iK iN : Nat → Int32} {post : SY → Prop} {g q : Nat} (hg : g < 600) (eo : yo g = nI q) (hq : q < 40) (ek : yk q = nI 32) (e2 : y2 g = -1) {a : Nat} (ea : yas = nI (a + 1)) (et : ¬ yto = 0) (hp : post (yma, ypo, yhe, yvm, yin, yfi, yde, yap, (nI a), yto, 0, yco, yti, yna, yac, yen, yic, o, l, kS, d, pl, ys, yk, yn, yp, yf, yo, yi, yw, ya, y1, y2, yK, yW, yL, yq, nm, nv, no, yA, lf, rt, iK, iN)) : wpY_goOn post (yma, ypo, yhe, yvm, yin, yfi, yde, yap, yas, yto, yan, yco, yti, yna, yac, yen, yic, o, l, kS, d, pl, ys, yk, yn, yp, yf, yo, yi, yw, ya, y1, y2, yK, yW, yL, yq, nm, nv, no, yA, lf, rt, iK, iN) (nI g) := by
  have eg' : (nI g).toNatClampNeg = g := nI_clamp (by omega)
  have hin : vp_in (nI g) 601 := vp_in_nI (by omega) (by omega)
  have hiq : vp_in (nI q) 40 := vp_in_nI hq (by omega)
  refine yg_pre hg eo hq ek (by omega) (fun w => absurd w (by omega)) (fun e => absurd e (by omega)) (fun _ _ _ => ?_) (fun _ _ w => absurd (by rw [e2]; decide) w)
  unfold wpY_goOnFirst
  dsimp only
  rw [eg', eo, nI_clamp (show q < 2 ^ 31 by omega)]
  refine ⟨hin, nm_e ⟨hin, hiq, nm_e ?_⟩⟩
  exact br_f (by decide) (br_f (by decide) (br_f et (yr_tell ea hp)))
theorem yf_33e {yma ypo yhe yvm : Int32} {yin : Int64} {yfi yde yap yas yto : Int32} {yan : Int64} {yco yti yna yac yen yic : Int32} {o l kS d : Nat → Int32} {pl ys : Nat → Int64} {yk yn yp yf yo : Nat → Int32} {yi : Nat → Int64} {yw ya y1 y2 : Nat → Int32} {yK : Nat → Int64} {yW : Nat → Int32} {yL : Nat → Int64} {yq nm : Nat → Int32} {nv : Nat → Int64} {no : Nat → Int32} {yA lf rt : Nat → Int64} {iK iN : Nat → Int32} {post : SY → Prop} {g q : Nat} (hg : g < 600) (eo : yo g = nI q) (hq : q < 40) (ek : yk q = nI 33) (e2 : y2 g = -1) {a : Nat} (ea : yas = nI (a + 1)) (et : ¬ yto = 0) (hp : post (yma, ypo, yhe, yvm, yin, yfi, yde, yap, (nI a), yto, 0, yco, yti, yna, yac, yen, yic, o, l, kS, d, pl, ys, yk, yn, yp, yf, yo, yi, yw, ya, y1, y2, yK, yW, yL, yq, nm, nv, no, yA, lf, rt, iK, iN)) : wpY_goOn post (yma, ypo, yhe, yvm, yin, yfi, yde, yap, yas, yto, yan, yco, yti, yna, yac, yen, yic, o, l, kS, d, pl, ys, yk, yn, yp, yf, yo, yi, yw, ya, y1, y2, yK, yW, yL, yq, nm, nv, no, yA, lf, rt, iK, iN) (nI g) := by
  have eg' : (nI g).toNatClampNeg = g := nI_clamp (by omega)
  have hin : vp_in (nI g) 601 := vp_in_nI (by omega) (by omega)
  have hiq : vp_in (nI q) 40 := vp_in_nI hq (by omega)
  refine yg_pre hg eo hq ek (by omega) (fun w => absurd w (by omega)) (fun e => absurd e (by omega)) (fun _ _ _ => ?_) (fun _ _ w => absurd (by rw [e2]; decide) w)
  unfold wpY_goOnFirst
  dsimp only
  rw [eg', eo, nI_clamp (show q < 2 ^ 31 by omega)]
  refine ⟨hin, nm_e ⟨hin, hiq, nm_e ?_⟩⟩
  exact br_f (by decide) (br_f (by decide) (br_f et (yr_tell ea hp)))
theorem yf_34e {yma ypo yhe yvm : Int32} {yin : Int64} {yfi yde yap yas yto : Int32} {yan : Int64} {yco yti yna yac yen yic : Int32} {o l kS d : Nat → Int32} {pl ys : Nat → Int64} {yk yn yp yf yo : Nat → Int32} {yi : Nat → Int64} {yw ya y1 y2 : Nat → Int32} {yK : Nat → Int64} {yW : Nat → Int32} {yL : Nat → Int64} {yq nm : Nat → Int32} {nv : Nat → Int64} {no : Nat → Int32} {yA lf rt : Nat → Int64} {iK iN : Nat → Int32} {post : SY → Prop} {g q : Nat} (hg : g < 600) (eo : yo g = nI q) (hq : q < 40) (ek : yk q = nI 34) (e2 : y2 g = -1) {a : Nat} (ea : yas = nI (a + 1)) (et : ¬ yto = 0) (hp : post (yma, ypo, yhe, yvm, yin, yfi, yde, yap, (nI a), yto, 0, yco, yti, yna, yac, yen, yic, o, l, kS, d, pl, ys, yk, yn, yp, yf, yo, yi, yw, ya, y1, y2, yK, yW, yL, yq, nm, nv, no, yA, lf, rt, iK, iN)) : wpY_goOn post (yma, ypo, yhe, yvm, yin, yfi, yde, yap, yas, yto, yan, yco, yti, yna, yac, yen, yic, o, l, kS, d, pl, ys, yk, yn, yp, yf, yo, yi, yw, ya, y1, y2, yK, yW, yL, yq, nm, nv, no, yA, lf, rt, iK, iN) (nI g) := by
  have eg' : (nI g).toNatClampNeg = g := nI_clamp (by omega)
  have hin : vp_in (nI g) 601 := vp_in_nI (by omega) (by omega)
  have hiq : vp_in (nI q) 40 := vp_in_nI hq (by omega)
  refine yg_pre hg eo hq ek (by omega) (fun w => absurd w (by omega)) (fun e => absurd e (by omega)) (fun _ _ _ => ?_) (fun _ _ w => absurd (by rw [e2]; decide) w)
  unfold wpY_goOnFirst
  dsimp only
  rw [eg', eo, nI_clamp (show q < 2 ^ 31 by omega)]
  refine ⟨hin, nm_e ⟨hin, hiq, nm_e ?_⟩⟩
  exact br_f (by decide) (br_f (by decide) (br_f et (yr_tell ea hp)))
theorem yf_35e {yma ypo yhe yvm : Int32} {yin : Int64} {yfi yde yap yas yto : Int32} {yan : Int64} {yco yti yna yac yen yic : Int32} {o l kS d : Nat → Int32} {pl ys : Nat → Int64} {yk yn yp yf yo : Nat → Int32} {yi : Nat → Int64} {yw ya y1 y2 : Nat → Int32} {yK : Nat → Int64} {yW : Nat → Int32} {yL : Nat → Int64} {yq nm : Nat → Int32} {nv : Nat → Int64} {no : Nat → Int32} {yA lf rt : Nat → Int64} {iK iN : Nat → Int32} {post : SY → Prop} {g q : Nat} (hg : g < 600) (eo : yo g = nI q) (hq : q < 40) (ek : yk q = nI 35) (e2 : y2 g = -1) {a : Nat} (ea : yas = nI (a + 1)) (et : ¬ yto = 0) (hp : post (yma, ypo, yhe, yvm, yin, yfi, yde, yap, (nI a), yto, 0, yco, yti, yna, yac, yen, yic, o, l, kS, d, pl, ys, yk, yn, yp, yf, yo, yi, yw, ya, y1, y2, yK, yW, yL, yq, nm, nv, no, yA, lf, rt, iK, iN)) : wpY_goOn post (yma, ypo, yhe, yvm, yin, yfi, yde, yap, yas, yto, yan, yco, yti, yna, yac, yen, yic, o, l, kS, d, pl, ys, yk, yn, yp, yf, yo, yi, yw, ya, y1, y2, yK, yW, yL, yq, nm, nv, no, yA, lf, rt, iK, iN) (nI g) := by
  have eg' : (nI g).toNatClampNeg = g := nI_clamp (by omega)
  have hin : vp_in (nI g) 601 := vp_in_nI (by omega) (by omega)
  have hiq : vp_in (nI q) 40 := vp_in_nI hq (by omega)
  refine yg_pre hg eo hq ek (by omega) (fun w => absurd w (by omega)) (fun e => absurd e (by omega)) (fun _ _ _ => ?_) (fun _ _ w => absurd (by rw [e2]; decide) w)
  unfold wpY_goOnFirst
  dsimp only
  rw [eg', eo, nI_clamp (show q < 2 ^ 31 by omega)]
  refine ⟨hin, nm_e ⟨hin, hiq, nm_e ?_⟩⟩
  exact br_f (by decide) (br_f (by decide) (br_f et (yr_tell ea hp)))
theorem yf_36e {yma ypo yhe yvm : Int32} {yin : Int64} {yfi yde yap yas yto : Int32} {yan : Int64} {yco yti yna yac yen yic : Int32} {o l kS d : Nat → Int32} {pl ys : Nat → Int64} {yk yn yp yf yo : Nat → Int32} {yi : Nat → Int64} {yw ya y1 y2 : Nat → Int32} {yK : Nat → Int64} {yW : Nat → Int32} {yL : Nat → Int64} {yq nm : Nat → Int32} {nv : Nat → Int64} {no : Nat → Int32} {yA lf rt : Nat → Int64} {iK iN : Nat → Int32} {post : SY → Prop} {g q : Nat} (hg : g < 600) (eo : yo g = nI q) (hq : q < 40) (ek : yk q = nI 36) (e2 : y2 g = -1) {a : Nat} (ea : yas = nI (a + 1)) (et : ¬ yto = 0) (hp : post (yma, ypo, yhe, yvm, yin, yfi, yde, yap, (nI a), yto, 0, yco, yti, yna, yac, yen, yic, o, l, kS, d, pl, ys, yk, yn, yp, yf, yo, yi, yw, ya, y1, y2, yK, yW, yL, yq, nm, nv, no, yA, lf, rt, iK, iN)) : wpY_goOn post (yma, ypo, yhe, yvm, yin, yfi, yde, yap, yas, yto, yan, yco, yti, yna, yac, yen, yic, o, l, kS, d, pl, ys, yk, yn, yp, yf, yo, yi, yw, ya, y1, y2, yK, yW, yL, yq, nm, nv, no, yA, lf, rt, iK, iN) (nI g) := by
  have eg' : (nI g).toNatClampNeg = g := nI_clamp (by omega)
  have hin : vp_in (nI g) 601 := vp_in_nI (by omega) (by omega)
  have hiq : vp_in (nI q) 40 := vp_in_nI hq (by omega)
  refine yg_pre hg eo hq ek (by omega) (fun w => absurd w (by omega)) (fun e => absurd e (by omega)) (fun _ _ _ => ?_) (fun _ _ w => absurd (by rw [e2]; decide) w)
  unfold wpY_goOnFirst
  dsimp only
  rw [eg', eo, nI_clamp (show q < 2 ^ 31 by omega)]
  refine ⟨hin, nm_e ⟨hin, hiq, nm_e ?_⟩⟩
  exact br_f (by decide) (br_f (by decide) (br_f et (yr_tell ea hp)))
theorem yf_37e {yma ypo yhe yvm : Int32} {yin : Int64} {yfi yde yap yas yto : Int32} {yan : Int64} {yco yti yna yac yen yic : Int32} {o l kS d : Nat → Int32} {pl ys : Nat → Int64} {yk yn yp yf yo : Nat → Int32} {yi : Nat → Int64} {yw ya y1 y2 : Nat → Int32} {yK : Nat → Int64} {yW : Nat → Int32} {yL : Nat → Int64} {yq nm : Nat → Int32} {nv : Nat → Int64} {no : Nat → Int32} {yA lf rt : Nat → Int64} {iK iN : Nat → Int32} {post : SY → Prop} {g q : Nat} (hg : g < 600) (eo : yo g = nI q) (hq : q < 40) (ek : yk q = nI 37) (e2 : y2 g = -1) {a : Nat} (ea : yas = nI (a + 1)) (et : ¬ yto = 0) (hp : post (yma, ypo, yhe, yvm, yin, yfi, yde, yap, (nI a), yto, 0, yco, yti, yna, yac, yen, yic, o, l, kS, d, pl, ys, yk, yn, yp, yf, yo, yi, yw, ya, y1, y2, yK, yW, yL, yq, nm, nv, no, yA, lf, rt, iK, iN)) : wpY_goOn post (yma, ypo, yhe, yvm, yin, yfi, yde, yap, yas, yto, yan, yco, yti, yna, yac, yen, yic, o, l, kS, d, pl, ys, yk, yn, yp, yf, yo, yi, yw, ya, y1, y2, yK, yW, yL, yq, nm, nv, no, yA, lf, rt, iK, iN) (nI g) := by
  have eg' : (nI g).toNatClampNeg = g := nI_clamp (by omega)
  have hin : vp_in (nI g) 601 := vp_in_nI (by omega) (by omega)
  have hiq : vp_in (nI q) 40 := vp_in_nI hq (by omega)
  refine yg_pre hg eo hq ek (by omega) (fun w => absurd w (by omega)) (fun e => absurd e (by omega)) (fun _ _ _ => ?_) (fun _ _ w => absurd (by rw [e2]; decide) w)
  unfold wpY_goOnFirst
  dsimp only
  rw [eg', eo, nI_clamp (show q < 2 ^ 31 by omega)]
  refine ⟨hin, nm_e ⟨hin, hiq, nm_e ?_⟩⟩
  exact br_f (by decide) (br_f (by decide) (br_f et (yr_tell ea hp)))
theorem yf_38e {yma ypo yhe yvm : Int32} {yin : Int64} {yfi yde yap yas yto : Int32} {yan : Int64} {yco yti yna yac yen yic : Int32} {o l kS d : Nat → Int32} {pl ys : Nat → Int64} {yk yn yp yf yo : Nat → Int32} {yi : Nat → Int64} {yw ya y1 y2 : Nat → Int32} {yK : Nat → Int64} {yW : Nat → Int32} {yL : Nat → Int64} {yq nm : Nat → Int32} {nv : Nat → Int64} {no : Nat → Int32} {yA lf rt : Nat → Int64} {iK iN : Nat → Int32} {post : SY → Prop} {g q : Nat} (hg : g < 600) (eo : yo g = nI q) (hq : q < 40) (ek : yk q = nI 38) (e2 : y2 g = -1) {a : Nat} (ea : yas = nI (a + 1)) (et : ¬ yto = 0) (hp : post (yma, ypo, yhe, yvm, yin, yfi, yde, yap, (nI a), yto, 0, yco, yti, yna, yac, yen, yic, o, l, kS, d, pl, ys, yk, yn, yp, yf, yo, yi, yw, ya, y1, y2, yK, yW, yL, yq, nm, nv, no, yA, lf, rt, iK, iN)) : wpY_goOn post (yma, ypo, yhe, yvm, yin, yfi, yde, yap, yas, yto, yan, yco, yti, yna, yac, yen, yic, o, l, kS, d, pl, ys, yk, yn, yp, yf, yo, yi, yw, ya, y1, y2, yK, yW, yL, yq, nm, nv, no, yA, lf, rt, iK, iN) (nI g) := by
  have eg' : (nI g).toNatClampNeg = g := nI_clamp (by omega)
  have hin : vp_in (nI g) 601 := vp_in_nI (by omega) (by omega)
  have hiq : vp_in (nI q) 40 := vp_in_nI hq (by omega)
  refine yg_pre hg eo hq ek (by omega) (fun w => absurd w (by omega)) (fun e => absurd e (by omega)) (fun _ _ _ => ?_) (fun _ _ w => absurd (by rw [e2]; decide) w)
  unfold wpY_goOnFirst
  dsimp only
  rw [eg', eo, nI_clamp (show q < 2 ^ 31 by omega)]
  refine ⟨hin, nm_e ⟨hin, hiq, nm_e ?_⟩⟩
  exact br_f (by decide) (br_f (by decide) (br_f et (yr_tell ea hp)))
theorem yf_39e {yma ypo yhe yvm : Int32} {yin : Int64} {yfi yde yap yas yto : Int32} {yan : Int64} {yco yti yna yac yen yic : Int32} {o l kS d : Nat → Int32} {pl ys : Nat → Int64} {yk yn yp yf yo : Nat → Int32} {yi : Nat → Int64} {yw ya y1 y2 : Nat → Int32} {yK : Nat → Int64} {yW : Nat → Int32} {yL : Nat → Int64} {yq nm : Nat → Int32} {nv : Nat → Int64} {no : Nat → Int32} {yA lf rt : Nat → Int64} {iK iN : Nat → Int32} {post : SY → Prop} {g q : Nat} (hg : g < 600) (eo : yo g = nI q) (hq : q < 40) (ek : yk q = nI 39) (e2 : y2 g = -1) {a : Nat} (ea : yas = nI (a + 1)) (et : ¬ yto = 0) (hp : post (yma, ypo, yhe, yvm, yin, yfi, yde, yap, (nI a), yto, 0, yco, yti, yna, yac, yen, yic, o, l, kS, d, pl, ys, yk, yn, yp, yf, yo, yi, yw, ya, y1, y2, yK, yW, yL, yq, nm, nv, no, yA, lf, rt, iK, iN)) : wpY_goOn post (yma, ypo, yhe, yvm, yin, yfi, yde, yap, yas, yto, yan, yco, yti, yna, yac, yen, yic, o, l, kS, d, pl, ys, yk, yn, yp, yf, yo, yi, yw, ya, y1, y2, yK, yW, yL, yq, nm, nv, no, yA, lf, rt, iK, iN) (nI g) := by
  have eg' : (nI g).toNatClampNeg = g := nI_clamp (by omega)
  have hin : vp_in (nI g) 601 := vp_in_nI (by omega) (by omega)
  have hiq : vp_in (nI q) 40 := vp_in_nI hq (by omega)
  refine yg_pre hg eo hq ek (by omega) (fun w => absurd w (by omega)) (fun e => absurd e (by omega)) (fun _ _ _ => ?_) (fun _ _ w => absurd (by rw [e2]; decide) w)
  unfold wpY_goOnFirst
  dsimp only
  rw [eg', eo, nI_clamp (show q < 2 ^ 31 by omega)]
  refine ⟨hin, nm_e ⟨hin, hiq, nm_e ?_⟩⟩
  exact br_f (by decide) (br_f (by decide) (br_f et (yr_tell ea hp)))
theorem yf_40e {yma ypo yhe yvm : Int32} {yin : Int64} {yfi yde yap yas yto : Int32} {yan : Int64} {yco yti yna yac yen yic : Int32} {o l kS d : Nat → Int32} {pl ys : Nat → Int64} {yk yn yp yf yo : Nat → Int32} {yi : Nat → Int64} {yw ya y1 y2 : Nat → Int32} {yK : Nat → Int64} {yW : Nat → Int32} {yL : Nat → Int64} {yq nm : Nat → Int32} {nv : Nat → Int64} {no : Nat → Int32} {yA lf rt : Nat → Int64} {iK iN : Nat → Int32} {post : SY → Prop} {g q : Nat} (hg : g < 600) (eo : yo g = nI q) (hq : q < 40) (ek : yk q = nI 40) (e2 : y2 g = -1) {a : Nat} (ea : yas = nI (a + 1)) (et : ¬ yto = 0) (hp : post (yma, ypo, yhe, yvm, yin, yfi, yde, yap, (nI a), yto, 0, yco, yti, yna, yac, yen, yic, o, l, kS, d, pl, ys, yk, yn, yp, yf, yo, yi, yw, ya, y1, y2, yK, yW, yL, yq, nm, nv, no, yA, lf, rt, iK, iN)) : wpY_goOn post (yma, ypo, yhe, yvm, yin, yfi, yde, yap, yas, yto, yan, yco, yti, yna, yac, yen, yic, o, l, kS, d, pl, ys, yk, yn, yp, yf, yo, yi, yw, ya, y1, y2, yK, yW, yL, yq, nm, nv, no, yA, lf, rt, iK, iN) (nI g) := by
  have eg' : (nI g).toNatClampNeg = g := nI_clamp (by omega)
  have hin : vp_in (nI g) 601 := vp_in_nI (by omega) (by omega)
  have hiq : vp_in (nI q) 40 := vp_in_nI hq (by omega)
  refine yg_pre hg eo hq ek (by omega) (fun w => absurd w (by omega)) (fun e => absurd e (by omega)) (fun _ _ _ => ?_) (fun _ _ w => absurd (by rw [e2]; decide) w)
  unfold wpY_goOnFirst
  dsimp only
  rw [eg', eo, nI_clamp (show q < 2 ^ 31 by omega)]
  refine ⟨hin, nm_e ⟨hin, hiq, nm_e ?_⟩⟩
  exact br_f (by decide) (br_f (by decide) (br_f et (yr_tell ea hp)))
theorem yf_42e {yma ypo yhe yvm : Int32} {yin : Int64} {yfi yde yap yas yto : Int32} {yan : Int64} {yco yti yna yac yen yic : Int32} {o l kS d : Nat → Int32} {pl ys : Nat → Int64} {yk yn yp yf yo : Nat → Int32} {yi : Nat → Int64} {yw ya y1 y2 : Nat → Int32} {yK : Nat → Int64} {yW : Nat → Int32} {yL : Nat → Int64} {yq nm : Nat → Int32} {nv : Nat → Int64} {no : Nat → Int32} {yA lf rt : Nat → Int64} {iK iN : Nat → Int32} {post : SY → Prop} {g q : Nat} (hg : g < 600) (eo : yo g = nI q) (hq : q < 40) (ek : yk q = nI 42) (e2 : y2 g = -1) {a : Nat} (ea : yas = nI (a + 1)) (et : ¬ yto = 0) (hp : post (yma, ypo, yhe, yvm, yin, yfi, yde, yap, (nI a), yto, 0, yco, yti, yna, yac, yen, yic, o, l, kS, d, pl, ys, yk, yn, yp, yf, yo, yi, yw, ya, y1, y2, yK, yW, yL, yq, nm, nv, no, yA, lf, rt, iK, iN)) : wpY_goOn post (yma, ypo, yhe, yvm, yin, yfi, yde, yap, yas, yto, yan, yco, yti, yna, yac, yen, yic, o, l, kS, d, pl, ys, yk, yn, yp, yf, yo, yi, yw, ya, y1, y2, yK, yW, yL, yq, nm, nv, no, yA, lf, rt, iK, iN) (nI g) := by
  have eg' : (nI g).toNatClampNeg = g := nI_clamp (by omega)
  have hin : vp_in (nI g) 601 := vp_in_nI (by omega) (by omega)
  have hiq : vp_in (nI q) 40 := vp_in_nI hq (by omega)
  refine yg_pre hg eo hq ek (by omega) (fun w => absurd w (by omega)) (fun e => absurd e (by omega)) (fun _ _ _ => ?_) (fun _ _ w => absurd (by rw [e2]; decide) w)
  unfold wpY_goOnFirst
  dsimp only
  rw [eg', eo, nI_clamp (show q < 2 ^ 31 by omega)]
  refine ⟨hin, nm_e ⟨hin, hiq, nm_e ?_⟩⟩
  exact br_f (by decide) (br_f (by decide) (br_f et (yr_tell ea hp)))
theorem yf_50e {yma ypo yhe yvm : Int32} {yin : Int64} {yfi yde yap yas yto : Int32} {yan : Int64} {yco yti yna yac yen yic : Int32} {o l kS d : Nat → Int32} {pl ys : Nat → Int64} {yk yn yp yf yo : Nat → Int32} {yi : Nat → Int64} {yw ya y1 y2 : Nat → Int32} {yK : Nat → Int64} {yW : Nat → Int32} {yL : Nat → Int64} {yq nm : Nat → Int32} {nv : Nat → Int64} {no : Nat → Int32} {yA lf rt : Nat → Int64} {iK iN : Nat → Int32} {post : SY → Prop} {g q : Nat} (hg : g < 600) (eo : yo g = nI q) (hq : q < 40) (ek : yk q = nI 50) (e2 : y2 g = -1) {a : Nat} (ea : yas = nI (a + 1)) (et : ¬ yto = 0) (hp : post (yma, ypo, yhe, yvm, yin, yfi, yde, yap, (nI a), yto, 0, yco, yti, yna, yac, yen, yic, o, l, kS, d, pl, ys, yk, yn, yp, yf, yo, yi, yw, ya, y1, y2, yK, yW, yL, yq, nm, nv, no, yA, lf, rt, iK, iN)) : wpY_goOn post (yma, ypo, yhe, yvm, yin, yfi, yde, yap, yas, yto, yan, yco, yti, yna, yac, yen, yic, o, l, kS, d, pl, ys, yk, yn, yp, yf, yo, yi, yw, ya, y1, y2, yK, yW, yL, yq, nm, nv, no, yA, lf, rt, iK, iN) (nI g) := by
  have eg' : (nI g).toNatClampNeg = g := nI_clamp (by omega)
  have hin : vp_in (nI g) 601 := vp_in_nI (by omega) (by omega)
  have hiq : vp_in (nI q) 40 := vp_in_nI hq (by omega)
  refine yg_pre hg eo hq ek (by omega) (fun w => absurd w (by omega)) (fun e => absurd e (by omega)) (fun _ _ _ => ?_) (fun _ _ w => absurd (by rw [e2]; decide) w)
  unfold wpY_goOnFirst
  dsimp only
  rw [eg', eo, nI_clamp (show q < 2 ^ 31 by omega)]
  refine ⟨hin, nm_e ⟨hin, hiq, nm_e ?_⟩⟩
  exact br_f (by decide) (br_f (by decide) (br_f et (yr_tell ea hp)))
theorem yf_30 {yma ypo yhe yvm : Int32} {yin : Int64} {yfi yde yap yas yto : Int32} {yan : Int64} {yco yti yna yac yen yic : Int32} {o l kS d : Nat → Int32} {pl ys : Nat → Int64} {yk yn yp yf yo : Nat → Int32} {yi : Nat → Int64} {yw ya y1 y2 : Nat → Int32} {yK : Nat → Int64} {yW : Nat → Int32} {yL : Nat → Int64} {yq nm : Nat → Int32} {nv : Nat → Int64} {no : Nat → Int32} {yA lf rt : Nat → Int64} {iK iN : Nat → Int32} {yma' ypo' yhe' yvm' : Int32} {yin' : Int64} {yfi' yde' yap' yas' yto' : Int32} {yan' : Int64} {yco' yti' yna' yac' yen' yic' : Int32} {o' l' kS' d' : Nat → Int32} {pl' ys' : Nat → Int64} {yk' yn' yp' yf' yo' : Nat → Int32} {yi' : Nat → Int64} {yw' ya' y1' y2' : Nat → Int32} {yK' : Nat → Int64} {yW' : Nat → Int32} {yL' : Nat → Int64} {yq' nm' : Nat → Int32} {nv' : Nat → Int64} {no' : Nat → Int32} {yA' lf' rt' : Nat → Int64} {iK' iN' : Nat → Int32} {post : SY → Prop} {g q : Nat} (hg : g < 600) (eo : yo g = nI q) (hq : q < 40) (ek : yk q = nI 30) (e2 : y2 g = -1) (et : yto = 0) (hA : ∀ Q : SY → Prop, Q (yma', ypo', yhe', yvm', yin', yfi', yde', yap', yas', yto', yan', yco', yti', yna', yac', yen', yic', o', l', kS', d', pl', ys', yk', yn', yp', yf', yo', yi', yw', ya', y1', y2', yK', yW', yL', yq', nm', nv', no', yA', lf', rt', iK', iN') → wpY_askSecond Q (yma, ypo, yhe, yvm, yin, yfi, yde, yap, yas, yto, yan, yco, yti, yna, yac, yen, yic, o, l, kS, d, pl, ys, yk, yn, yp, yf, yo, yi, yw, ya, y1, y2, yK, yW, yL, yq, nm, nv, no, yA, lf, rt, iK, iN) (nI g) (nI 1) yan (yw g)) (hp : post (yma', ypo', yhe', yvm', yin', yfi', yde', yap', yas', yto', yan', yco', yti', yna', yac', yen', yic', o', l', kS', d', pl', ys', yk', yn', yp', yf', yo', yi', yw', ya', y1', y2', yK', yW', yL', yq', nm', nv', no', yA', lf', rt', iK', iN')) : wpY_goOn post (yma, ypo, yhe, yvm, yin, yfi, yde, yap, yas, yto, yan, yco, yti, yna, yac, yen, yic, o, l, kS, d, pl, ys, yk, yn, yp, yf, yo, yi, yw, ya, y1, y2, yK, yW, yL, yq, nm, nv, no, yA, lf, rt, iK, iN) (nI g) := by
  have eg' : (nI g).toNatClampNeg = g := nI_clamp (by omega)
  have hin : vp_in (nI g) 601 := vp_in_nI (by omega) (by omega)
  have hiq : vp_in (nI q) 40 := vp_in_nI hq (by omega)
  refine yg_pre hg eo hq ek (by omega) (fun w => absurd w (by omega)) (fun e => absurd e (by omega)) (fun _ _ _ => ?_) (fun _ _ w => absurd (by rw [e2]; decide) w)
  unfold wpY_goOnFirst
  dsimp only
  rw [eg', eo, nI_clamp (show q < 2 ^ 31 by omega)]
  refine ⟨hin, nm_e ⟨hin, hiq, nm_e ?_⟩⟩
  exact br_f (by decide) (br_f (by decide) (br_t et (br_t rfl (⟨hin, hA _ hp⟩))))
theorem yf_32 {yma ypo yhe yvm : Int32} {yin : Int64} {yfi yde yap yas yto : Int32} {yan : Int64} {yco yti yna yac yen yic : Int32} {o l kS d : Nat → Int32} {pl ys : Nat → Int64} {yk yn yp yf yo : Nat → Int32} {yi : Nat → Int64} {yw ya y1 y2 : Nat → Int32} {yK : Nat → Int64} {yW : Nat → Int32} {yL : Nat → Int64} {yq nm : Nat → Int32} {nv : Nat → Int64} {no : Nat → Int32} {yA lf rt : Nat → Int64} {iK iN : Nat → Int32} {yma' ypo' yhe' yvm' : Int32} {yin' : Int64} {yfi' yde' yap' yas' yto' : Int32} {yan' : Int64} {yco' yti' yna' yac' yen' yic' : Int32} {o' l' kS' d' : Nat → Int32} {pl' ys' : Nat → Int64} {yk' yn' yp' yf' yo' : Nat → Int32} {yi' : Nat → Int64} {yw' ya' y1' y2' : Nat → Int32} {yK' : Nat → Int64} {yW' : Nat → Int32} {yL' : Nat → Int64} {yq' nm' : Nat → Int32} {nv' : Nat → Int64} {no' : Nat → Int32} {yA' lf' rt' : Nat → Int64} {iK' iN' : Nat → Int32} {post : SY → Prop} {g q : Nat} (hg : g < 600) (eo : yo g = nI q) (hq : q < 40) (ek : yk q = nI 32) (e2 : y2 g = -1) (et : yto = 0) (hA : ∀ Q : SY → Prop, Q (yma', ypo', yhe', yvm', yin', yfi', yde', yap', yas', yto', yan', yco', yti', yna', yac', yen', yic', o', l', kS', d', pl', ys', yk', yn', yp', yf', yo', yi', yw', ya', y1', y2', yK', yW', yL', yq', nm', nv', no', yA', lf', rt', iK', iN') → wpY_askSecond Q (yma, ypo, yhe, yvm, yin, yfi, yde, yap, yas, yto, yan, yco, yti, yna, yac, yen, yic, o, l, kS, d, pl, ys, yk, yn, yp, yf, yo, yi, yw, ya, y1, y2, (vp_updL yK g yan), yW, yL, yq, nm, nv, no, yA, lf, rt, iK, iN) (nI g) (nI 1) (yi g) (yw g)) (hp : post (yma', ypo', yhe', yvm', yin', yfi', yde', yap', yas', yto', yan', yco', yti', yna', yac', yen', yic', o', l', kS', d', pl', ys', yk', yn', yp', yf', yo', yi', yw', ya', y1', y2', yK', yW', yL', yq', nm', nv', no', yA', lf', rt', iK', iN')) : wpY_goOn post (yma, ypo, yhe, yvm, yin, yfi, yde, yap, yas, yto, yan, yco, yti, yna, yac, yen, yic, o, l, kS, d, pl, ys, yk, yn, yp, yf, yo, yi, yw, ya, y1, y2, yK, yW, yL, yq, nm, nv, no, yA, lf, rt, iK, iN) (nI g) := by
  have eg' : (nI g).toNatClampNeg = g := nI_clamp (by omega)
  have hin : vp_in (nI g) 601 := vp_in_nI (by omega) (by omega)
  have hiq : vp_in (nI q) 40 := vp_in_nI hq (by omega)
  refine yg_pre hg eo hq ek (by omega) (fun w => absurd w (by omega)) (fun e => absurd e (by omega)) (fun _ _ _ => ?_) (fun _ _ w => absurd (by rw [e2]; decide) w)
  unfold wpY_goOnFirst
  dsimp only
  rw [eg', eo, nI_clamp (show q < 2 ^ 31 by omega)]
  refine ⟨hin, nm_e ⟨hin, hiq, nm_e ?_⟩⟩
  exact br_f (by decide) (br_f (by decide) (br_t et (br_f (by decide) (br_f (by decide) (br_f (by decide) (br_f (by decide) (br_f (by decide) (⟨hin, nm_e ⟨hin, hA _ hp⟩⟩))))))))
theorem yf_33 {yma ypo yhe yvm : Int32} {yin : Int64} {yfi yde yap yas yto : Int32} {yan : Int64} {yco yti yna yac yen yic : Int32} {o l kS d : Nat → Int32} {pl ys : Nat → Int64} {yk yn yp yf yo : Nat → Int32} {yi : Nat → Int64} {yw ya y1 y2 : Nat → Int32} {yK : Nat → Int64} {yW : Nat → Int32} {yL : Nat → Int64} {yq nm : Nat → Int32} {nv : Nat → Int64} {no : Nat → Int32} {yA lf rt : Nat → Int64} {iK iN : Nat → Int32} {yma' ypo' yhe' yvm' : Int32} {yin' : Int64} {yfi' yde' yap' yas' yto' : Int32} {yan' : Int64} {yco' yti' yna' yac' yen' yic' : Int32} {o' l' kS' d' : Nat → Int32} {pl' ys' : Nat → Int64} {yk' yn' yp' yf' yo' : Nat → Int32} {yi' : Nat → Int64} {yw' ya' y1' y2' : Nat → Int32} {yK' : Nat → Int64} {yW' : Nat → Int32} {yL' : Nat → Int64} {yq' nm' : Nat → Int32} {nv' : Nat → Int64} {no' : Nat → Int32} {yA' lf' rt' : Nat → Int64} {iK' iN' : Nat → Int32} {post : SY → Prop} {g q : Nat} (hg : g < 600) (eo : yo g = nI q) (hq : q < 40) (ek : yk q = nI 33) (e2 : y2 g = -1) (et : yto = 0) (hA : ∀ Q : SY → Prop, Q (yma', ypo', yhe', yvm', yin', yfi', yde', yap', yas', yto', yan', yco', yti', yna', yac', yen', yic', o', l', kS', d', pl', ys', yk', yn', yp', yf', yo', yi', yw', ya', y1', y2', yK', yW', yL', yq', nm', nv', no', yA', lf', rt', iK', iN') → wpY_askSecond Q (yma, ypo, yhe, yvm, yin, yfi, yde, yap, yas, yto, yan, yco, yti, yna, yac, yen, yic, o, l, kS, d, pl, ys, yk, yn, yp, yf, yo, yi, yw, ya, y1, y2, (vp_updL yK g yan), yW, yL, yq, nm, nv, no, yA, lf, rt, iK, iN) (nI g) (nI 1) (yi g) (yw g)) (hp : post (yma', ypo', yhe', yvm', yin', yfi', yde', yap', yas', yto', yan', yco', yti', yna', yac', yen', yic', o', l', kS', d', pl', ys', yk', yn', yp', yf', yo', yi', yw', ya', y1', y2', yK', yW', yL', yq', nm', nv', no', yA', lf', rt', iK', iN')) : wpY_goOn post (yma, ypo, yhe, yvm, yin, yfi, yde, yap, yas, yto, yan, yco, yti, yna, yac, yen, yic, o, l, kS, d, pl, ys, yk, yn, yp, yf, yo, yi, yw, ya, y1, y2, yK, yW, yL, yq, nm, nv, no, yA, lf, rt, iK, iN) (nI g) := by
  have eg' : (nI g).toNatClampNeg = g := nI_clamp (by omega)
  have hin : vp_in (nI g) 601 := vp_in_nI (by omega) (by omega)
  have hiq : vp_in (nI q) 40 := vp_in_nI hq (by omega)
  refine yg_pre hg eo hq ek (by omega) (fun w => absurd w (by omega)) (fun e => absurd e (by omega)) (fun _ _ _ => ?_) (fun _ _ w => absurd (by rw [e2]; decide) w)
  unfold wpY_goOnFirst
  dsimp only
  rw [eg', eo, nI_clamp (show q < 2 ^ 31 by omega)]
  refine ⟨hin, nm_e ⟨hin, hiq, nm_e ?_⟩⟩
  exact br_f (by decide) (br_f (by decide) (br_t et (br_f (by decide) (br_f (by decide) (br_f (by decide) (br_f (by decide) (br_f (by decide) (⟨hin, nm_e ⟨hin, hA _ hp⟩⟩))))))))
theorem yf_34 {yma ypo yhe yvm : Int32} {yin : Int64} {yfi yde yap yas yto : Int32} {yan : Int64} {yco yti yna yac yen yic : Int32} {o l kS d : Nat → Int32} {pl ys : Nat → Int64} {yk yn yp yf yo : Nat → Int32} {yi : Nat → Int64} {yw ya y1 y2 : Nat → Int32} {yK : Nat → Int64} {yW : Nat → Int32} {yL : Nat → Int64} {yq nm : Nat → Int32} {nv : Nat → Int64} {no : Nat → Int32} {yA lf rt : Nat → Int64} {iK iN : Nat → Int32} {yma' ypo' yhe' yvm' : Int32} {yin' : Int64} {yfi' yde' yap' yas' yto' : Int32} {yan' : Int64} {yco' yti' yna' yac' yen' yic' : Int32} {o' l' kS' d' : Nat → Int32} {pl' ys' : Nat → Int64} {yk' yn' yp' yf' yo' : Nat → Int32} {yi' : Nat → Int64} {yw' ya' y1' y2' : Nat → Int32} {yK' : Nat → Int64} {yW' : Nat → Int32} {yL' : Nat → Int64} {yq' nm' : Nat → Int32} {nv' : Nat → Int64} {no' : Nat → Int32} {yA' lf' rt' : Nat → Int64} {iK' iN' : Nat → Int32} {post : SY → Prop} {g q : Nat} (hg : g < 600) (eo : yo g = nI q) (hq : q < 40) (ek : yk q = nI 34) (e2 : y2 g = -1) (et : yto = 0) (hA : ∀ Q : SY → Prop, Q (yma', ypo', yhe', yvm', yin', yfi', yde', yap', yas', yto', yan', yco', yti', yna', yac', yen', yic', o', l', kS', d', pl', ys', yk', yn', yp', yf', yo', yi', yw', ya', y1', y2', yK', yW', yL', yq', nm', nv', no', yA', lf', rt', iK', iN') → wpY_askSecond Q (yma, ypo, yhe, yvm, yin, yfi, yde, yap, yas, yto, yan, yco, yti, yna, yac, yen, yic, o, l, kS, d, pl, ys, yk, yn, yp, yf, yo, yi, yw, ya, y1, y2, (vp_updL yK g yan), yW, yL, yq, nm, nv, no, yA, lf, rt, iK, iN) (nI g) (nI 1) (yi g) (yw g)) (hp : post (yma', ypo', yhe', yvm', yin', yfi', yde', yap', yas', yto', yan', yco', yti', yna', yac', yen', yic', o', l', kS', d', pl', ys', yk', yn', yp', yf', yo', yi', yw', ya', y1', y2', yK', yW', yL', yq', nm', nv', no', yA', lf', rt', iK', iN')) : wpY_goOn post (yma, ypo, yhe, yvm, yin, yfi, yde, yap, yas, yto, yan, yco, yti, yna, yac, yen, yic, o, l, kS, d, pl, ys, yk, yn, yp, yf, yo, yi, yw, ya, y1, y2, yK, yW, yL, yq, nm, nv, no, yA, lf, rt, iK, iN) (nI g) := by
  have eg' : (nI g).toNatClampNeg = g := nI_clamp (by omega)
  have hin : vp_in (nI g) 601 := vp_in_nI (by omega) (by omega)
  have hiq : vp_in (nI q) 40 := vp_in_nI hq (by omega)
  refine yg_pre hg eo hq ek (by omega) (fun w => absurd w (by omega)) (fun e => absurd e (by omega)) (fun _ _ _ => ?_) (fun _ _ w => absurd (by rw [e2]; decide) w)
  unfold wpY_goOnFirst
  dsimp only
  rw [eg', eo, nI_clamp (show q < 2 ^ 31 by omega)]
  refine ⟨hin, nm_e ⟨hin, hiq, nm_e ?_⟩⟩
  exact br_f (by decide) (br_f (by decide) (br_t et (br_f (by decide) (br_f (by decide) (br_f (by decide) (br_f (by decide) (br_f (by decide) (⟨hin, nm_e ⟨hin, hA _ hp⟩⟩))))))))
theorem yf_35 {yma ypo yhe yvm : Int32} {yin : Int64} {yfi yde yap yas yto : Int32} {yan : Int64} {yco yti yna yac yen yic : Int32} {o l kS d : Nat → Int32} {pl ys : Nat → Int64} {yk yn yp yf yo : Nat → Int32} {yi : Nat → Int64} {yw ya y1 y2 : Nat → Int32} {yK : Nat → Int64} {yW : Nat → Int32} {yL : Nat → Int64} {yq nm : Nat → Int32} {nv : Nat → Int64} {no : Nat → Int32} {yA lf rt : Nat → Int64} {iK iN : Nat → Int32} {yma' ypo' yhe' yvm' : Int32} {yin' : Int64} {yfi' yde' yap' yas' yto' : Int32} {yan' : Int64} {yco' yti' yna' yac' yen' yic' : Int32} {o' l' kS' d' : Nat → Int32} {pl' ys' : Nat → Int64} {yk' yn' yp' yf' yo' : Nat → Int32} {yi' : Nat → Int64} {yw' ya' y1' y2' : Nat → Int32} {yK' : Nat → Int64} {yW' : Nat → Int32} {yL' : Nat → Int64} {yq' nm' : Nat → Int32} {nv' : Nat → Int64} {no' : Nat → Int32} {yA' lf' rt' : Nat → Int64} {iK' iN' : Nat → Int32} {post : SY → Prop} {g q : Nat} (hg : g < 600) (eo : yo g = nI q) (hq : q < 40) (ek : yk q = nI 35) (e2 : y2 g = -1) (et : yto = 0) (hA : ∀ Q : SY → Prop, Q (yma', ypo', yhe', yvm', yin', yfi', yde', yap', yas', yto', yan', yco', yti', yna', yac', yen', yic', o', l', kS', d', pl', ys', yk', yn', yp', yf', yo', yi', yw', ya', y1', y2', yK', yW', yL', yq', nm', nv', no', yA', lf', rt', iK', iN') → wpY_askSecond Q (yma, ypo, yhe, yvm, yin, yfi, yde, yap, yas, yto, yan, yco, yti, yna, yac, yen, yic, o, l, kS, d, pl, ys, yk, yn, yp, yf, yo, yi, yw, ya, y1, y2, (vp_updL yK g yan), yW, yL, yq, nm, nv, no, yA, lf, rt, iK, iN) (nI g) (nI 1) (yi g) (yw g)) (hp : post (yma', ypo', yhe', yvm', yin', yfi', yde', yap', yas', yto', yan', yco', yti', yna', yac', yen', yic', o', l', kS', d', pl', ys', yk', yn', yp', yf', yo', yi', yw', ya', y1', y2', yK', yW', yL', yq', nm', nv', no', yA', lf', rt', iK', iN')) : wpY_goOn post (yma, ypo, yhe, yvm, yin, yfi, yde, yap, yas, yto, yan, yco, yti, yna, yac, yen, yic, o, l, kS, d, pl, ys, yk, yn, yp, yf, yo, yi, yw, ya, y1, y2, yK, yW, yL, yq, nm, nv, no, yA, lf, rt, iK, iN) (nI g) := by
  have eg' : (nI g).toNatClampNeg = g := nI_clamp (by omega)
  have hin : vp_in (nI g) 601 := vp_in_nI (by omega) (by omega)
  have hiq : vp_in (nI q) 40 := vp_in_nI hq (by omega)
  refine yg_pre hg eo hq ek (by omega) (fun w => absurd w (by omega)) (fun e => absurd e (by omega)) (fun _ _ _ => ?_) (fun _ _ w => absurd (by rw [e2]; decide) w)
  unfold wpY_goOnFirst
  dsimp only
  rw [eg', eo, nI_clamp (show q < 2 ^ 31 by omega)]
  refine ⟨hin, nm_e ⟨hin, hiq, nm_e ?_⟩⟩
  exact br_f (by decide) (br_f (by decide) (br_t et (br_f (by decide) (br_f (by decide) (br_f (by decide) (br_f (by decide) (br_f (by decide) (⟨hin, nm_e ⟨hin, hA _ hp⟩⟩))))))))
theorem yf_36 {yma ypo yhe yvm : Int32} {yin : Int64} {yfi yde yap yas yto : Int32} {yan : Int64} {yco yti yna yac yen yic : Int32} {o l kS d : Nat → Int32} {pl ys : Nat → Int64} {yk yn yp yf yo : Nat → Int32} {yi : Nat → Int64} {yw ya y1 y2 : Nat → Int32} {yK : Nat → Int64} {yW : Nat → Int32} {yL : Nat → Int64} {yq nm : Nat → Int32} {nv : Nat → Int64} {no : Nat → Int32} {yA lf rt : Nat → Int64} {iK iN : Nat → Int32} {yma' ypo' yhe' yvm' : Int32} {yin' : Int64} {yfi' yde' yap' yas' yto' : Int32} {yan' : Int64} {yco' yti' yna' yac' yen' yic' : Int32} {o' l' kS' d' : Nat → Int32} {pl' ys' : Nat → Int64} {yk' yn' yp' yf' yo' : Nat → Int32} {yi' : Nat → Int64} {yw' ya' y1' y2' : Nat → Int32} {yK' : Nat → Int64} {yW' : Nat → Int32} {yL' : Nat → Int64} {yq' nm' : Nat → Int32} {nv' : Nat → Int64} {no' : Nat → Int32} {yA' lf' rt' : Nat → Int64} {iK' iN' : Nat → Int32} {post : SY → Prop} {g q : Nat} (hg : g < 600) (eo : yo g = nI q) (hq : q < 40) (ek : yk q = nI 36) (e2 : y2 g = -1) (et : yto = 0) (hA : ∀ Q : SY → Prop, Q (yma', ypo', yhe', yvm', yin', yfi', yde', yap', yas', yto', yan', yco', yti', yna', yac', yen', yic', o', l', kS', d', pl', ys', yk', yn', yp', yf', yo', yi', yw', ya', y1', y2', yK', yW', yL', yq', nm', nv', no', yA', lf', rt', iK', iN') → wpY_askSecond Q (yma, ypo, yhe, yvm, yin, yfi, yde, yap, yas, yto, yan, yco, yti, yna, yac, yen, yic, o, l, kS, d, pl, ys, yk, yn, yp, yf, yo, yi, yw, ya, y1, y2, (vp_updL yK g yan), yW, yL, yq, nm, nv, no, yA, lf, rt, iK, iN) (nI g) (nI 1) (yi g) (yw g)) (hp : post (yma', ypo', yhe', yvm', yin', yfi', yde', yap', yas', yto', yan', yco', yti', yna', yac', yen', yic', o', l', kS', d', pl', ys', yk', yn', yp', yf', yo', yi', yw', ya', y1', y2', yK', yW', yL', yq', nm', nv', no', yA', lf', rt', iK', iN')) : wpY_goOn post (yma, ypo, yhe, yvm, yin, yfi, yde, yap, yas, yto, yan, yco, yti, yna, yac, yen, yic, o, l, kS, d, pl, ys, yk, yn, yp, yf, yo, yi, yw, ya, y1, y2, yK, yW, yL, yq, nm, nv, no, yA, lf, rt, iK, iN) (nI g) := by
  have eg' : (nI g).toNatClampNeg = g := nI_clamp (by omega)
  have hin : vp_in (nI g) 601 := vp_in_nI (by omega) (by omega)
  have hiq : vp_in (nI q) 40 := vp_in_nI hq (by omega)
  refine yg_pre hg eo hq ek (by omega) (fun w => absurd w (by omega)) (fun e => absurd e (by omega)) (fun _ _ _ => ?_) (fun _ _ w => absurd (by rw [e2]; decide) w)
  unfold wpY_goOnFirst
  dsimp only
  rw [eg', eo, nI_clamp (show q < 2 ^ 31 by omega)]
  refine ⟨hin, nm_e ⟨hin, hiq, nm_e ?_⟩⟩
  exact br_f (by decide) (br_f (by decide) (br_t et (br_f (by decide) (br_f (by decide) (br_f (by decide) (br_f (by decide) (br_f (by decide) (⟨hin, nm_e ⟨hin, hA _ hp⟩⟩))))))))
theorem yf_37 {yma ypo yhe yvm : Int32} {yin : Int64} {yfi yde yap yas yto : Int32} {yan : Int64} {yco yti yna yac yen yic : Int32} {o l kS d : Nat → Int32} {pl ys : Nat → Int64} {yk yn yp yf yo : Nat → Int32} {yi : Nat → Int64} {yw ya y1 y2 : Nat → Int32} {yK : Nat → Int64} {yW : Nat → Int32} {yL : Nat → Int64} {yq nm : Nat → Int32} {nv : Nat → Int64} {no : Nat → Int32} {yA lf rt : Nat → Int64} {iK iN : Nat → Int32} {yma' ypo' yhe' yvm' : Int32} {yin' : Int64} {yfi' yde' yap' yas' yto' : Int32} {yan' : Int64} {yco' yti' yna' yac' yen' yic' : Int32} {o' l' kS' d' : Nat → Int32} {pl' ys' : Nat → Int64} {yk' yn' yp' yf' yo' : Nat → Int32} {yi' : Nat → Int64} {yw' ya' y1' y2' : Nat → Int32} {yK' : Nat → Int64} {yW' : Nat → Int32} {yL' : Nat → Int64} {yq' nm' : Nat → Int32} {nv' : Nat → Int64} {no' : Nat → Int32} {yA' lf' rt' : Nat → Int64} {iK' iN' : Nat → Int32} {post : SY → Prop} {g q : Nat} (hg : g < 600) (eo : yo g = nI q) (hq : q < 40) (ek : yk q = nI 37) (e2 : y2 g = -1) (et : yto = 0) (hA : ∀ Q : SY → Prop, Q (yma', ypo', yhe', yvm', yin', yfi', yde', yap', yas', yto', yan', yco', yti', yna', yac', yen', yic', o', l', kS', d', pl', ys', yk', yn', yp', yf', yo', yi', yw', ya', y1', y2', yK', yW', yL', yq', nm', nv', no', yA', lf', rt', iK', iN') → wpY_askSecond Q (yma, ypo, yhe, yvm, yin, yfi, yde, yap, yas, yto, yan, yco, yti, yna, yac, yen, yic, o, l, kS, d, pl, ys, yk, yn, yp, yf, yo, yi, yw, ya, y1, y2, (vp_updL yK g yan), yW, yL, yq, nm, nv, no, yA, lf, rt, iK, iN) (nI g) (nI 1) (yi g) (yw g)) (hp : post (yma', ypo', yhe', yvm', yin', yfi', yde', yap', yas', yto', yan', yco', yti', yna', yac', yen', yic', o', l', kS', d', pl', ys', yk', yn', yp', yf', yo', yi', yw', ya', y1', y2', yK', yW', yL', yq', nm', nv', no', yA', lf', rt', iK', iN')) : wpY_goOn post (yma, ypo, yhe, yvm, yin, yfi, yde, yap, yas, yto, yan, yco, yti, yna, yac, yen, yic, o, l, kS, d, pl, ys, yk, yn, yp, yf, yo, yi, yw, ya, y1, y2, yK, yW, yL, yq, nm, nv, no, yA, lf, rt, iK, iN) (nI g) := by
  have eg' : (nI g).toNatClampNeg = g := nI_clamp (by omega)
  have hin : vp_in (nI g) 601 := vp_in_nI (by omega) (by omega)
  have hiq : vp_in (nI q) 40 := vp_in_nI hq (by omega)
  refine yg_pre hg eo hq ek (by omega) (fun w => absurd w (by omega)) (fun e => absurd e (by omega)) (fun _ _ _ => ?_) (fun _ _ w => absurd (by rw [e2]; decide) w)
  unfold wpY_goOnFirst
  dsimp only
  rw [eg', eo, nI_clamp (show q < 2 ^ 31 by omega)]
  refine ⟨hin, nm_e ⟨hin, hiq, nm_e ?_⟩⟩
  exact br_f (by decide) (br_f (by decide) (br_t et (br_f (by decide) (br_f (by decide) (br_f (by decide) (br_f (by decide) (br_f (by decide) (⟨hin, nm_e ⟨hin, hA _ hp⟩⟩))))))))
theorem yf_38 {yma ypo yhe yvm : Int32} {yin : Int64} {yfi yde yap yas yto : Int32} {yan : Int64} {yco yti yna yac yen yic : Int32} {o l kS d : Nat → Int32} {pl ys : Nat → Int64} {yk yn yp yf yo : Nat → Int32} {yi : Nat → Int64} {yw ya y1 y2 : Nat → Int32} {yK : Nat → Int64} {yW : Nat → Int32} {yL : Nat → Int64} {yq nm : Nat → Int32} {nv : Nat → Int64} {no : Nat → Int32} {yA lf rt : Nat → Int64} {iK iN : Nat → Int32} {yma' ypo' yhe' yvm' : Int32} {yin' : Int64} {yfi' yde' yap' yas' yto' : Int32} {yan' : Int64} {yco' yti' yna' yac' yen' yic' : Int32} {o' l' kS' d' : Nat → Int32} {pl' ys' : Nat → Int64} {yk' yn' yp' yf' yo' : Nat → Int32} {yi' : Nat → Int64} {yw' ya' y1' y2' : Nat → Int32} {yK' : Nat → Int64} {yW' : Nat → Int32} {yL' : Nat → Int64} {yq' nm' : Nat → Int32} {nv' : Nat → Int64} {no' : Nat → Int32} {yA' lf' rt' : Nat → Int64} {iK' iN' : Nat → Int32} {post : SY → Prop} {g q : Nat} (hg : g < 600) (eo : yo g = nI q) (hq : q < 40) (ek : yk q = nI 38) (e2 : y2 g = -1) (et : yto = 0) (hA : ∀ Q : SY → Prop, Q (yma', ypo', yhe', yvm', yin', yfi', yde', yap', yas', yto', yan', yco', yti', yna', yac', yen', yic', o', l', kS', d', pl', ys', yk', yn', yp', yf', yo', yi', yw', ya', y1', y2', yK', yW', yL', yq', nm', nv', no', yA', lf', rt', iK', iN') → wpY_askSecond Q (yma, ypo, yhe, yvm, yin, yfi, yde, yap, yas, yto, yan, yco, yti, yna, yac, yen, yic, o, l, kS, d, pl, ys, yk, yn, yp, yf, yo, yi, yw, ya, y1, y2, (vp_updL yK g yan), yW, yL, yq, nm, nv, no, yA, lf, rt, iK, iN) (nI g) (nI 1) (yi g) (yw g)) (hp : post (yma', ypo', yhe', yvm', yin', yfi', yde', yap', yas', yto', yan', yco', yti', yna', yac', yen', yic', o', l', kS', d', pl', ys', yk', yn', yp', yf', yo', yi', yw', ya', y1', y2', yK', yW', yL', yq', nm', nv', no', yA', lf', rt', iK', iN')) : wpY_goOn post (yma, ypo, yhe, yvm, yin, yfi, yde, yap, yas, yto, yan, yco, yti, yna, yac, yen, yic, o, l, kS, d, pl, ys, yk, yn, yp, yf, yo, yi, yw, ya, y1, y2, yK, yW, yL, yq, nm, nv, no, yA, lf, rt, iK, iN) (nI g) := by
  have eg' : (nI g).toNatClampNeg = g := nI_clamp (by omega)
  have hin : vp_in (nI g) 601 := vp_in_nI (by omega) (by omega)
  have hiq : vp_in (nI q) 40 := vp_in_nI hq (by omega)
  refine yg_pre hg eo hq ek (by omega) (fun w => absurd w (by omega)) (fun e => absurd e (by omega)) (fun _ _ _ => ?_) (fun _ _ w => absurd (by rw [e2]; decide) w)
  unfold wpY_goOnFirst
  dsimp only
  rw [eg', eo, nI_clamp (show q < 2 ^ 31 by omega)]
  refine ⟨hin, nm_e ⟨hin, hiq, nm_e ?_⟩⟩
  exact br_f (by decide) (br_f (by decide) (br_t et (br_f (by decide) (br_f (by decide) (br_f (by decide) (br_f (by decide) (br_f (by decide) (⟨hin, nm_e ⟨hin, hA _ hp⟩⟩))))))))
theorem yf_42 {yma ypo yhe yvm : Int32} {yin : Int64} {yfi yde yap yas yto : Int32} {yan : Int64} {yco yti yna yac yen yic : Int32} {o l kS d : Nat → Int32} {pl ys : Nat → Int64} {yk yn yp yf yo : Nat → Int32} {yi : Nat → Int64} {yw ya y1 y2 : Nat → Int32} {yK : Nat → Int64} {yW : Nat → Int32} {yL : Nat → Int64} {yq nm : Nat → Int32} {nv : Nat → Int64} {no : Nat → Int32} {yA lf rt : Nat → Int64} {iK iN : Nat → Int32} {yma' ypo' yhe' yvm' : Int32} {yin' : Int64} {yfi' yde' yap' yas' yto' : Int32} {yan' : Int64} {yco' yti' yna' yac' yen' yic' : Int32} {o' l' kS' d' : Nat → Int32} {pl' ys' : Nat → Int64} {yk' yn' yp' yf' yo' : Nat → Int32} {yi' : Nat → Int64} {yw' ya' y1' y2' : Nat → Int32} {yK' : Nat → Int64} {yW' : Nat → Int32} {yL' : Nat → Int64} {yq' nm' : Nat → Int32} {nv' : Nat → Int64} {no' : Nat → Int32} {yA' lf' rt' : Nat → Int64} {iK' iN' : Nat → Int32} {post : SY → Prop} {g q : Nat} (hg : g < 600) (eo : yo g = nI q) (hq : q < 40) (ek : yk q = nI 42) (e2 : y2 g = -1) {nd : Nat} (et : yto = 0) (en : yna = nI nd) (hn : nd < 700) (hA : ∀ Q : SY → Prop, Q (yma', ypo', yhe', yvm', yin', yfi', yde', yap', yas', yto', yan', yco', yti', yna', yac', yen', yic', o', l', kS', d', pl', ys', yk', yn', yp', yf', yo', yi', yw', ya', y1', y2', yK', yW', yL', yq', nm', nv', no', yA', lf', rt', iK', iN') → wpY_askSecond Q (yma, ypo, yhe, yvm, yin, yfi, yde, yap, yas, yto, yan, yco, yti, (nI (nd + 1)), yac, yen, yic, o, l, kS, d, pl, ys, yk, yn, yp, yf, yo, yi, yw, ya, y1, y2, yK, yW, yL, yq, (upd nm nd (yn q)), (vp_updL nv nd yan), (upd no nd (yw g)), yA, lf, rt, iK, iN) (nI g) (nI 1) (yi g) (nI nd)) (hp : post (yma', ypo', yhe', yvm', yin', yfi', yde', yap', yas', yto', yan', yco', yti', yna', yac', yen', yic', o', l', kS', d', pl', ys', yk', yn', yp', yf', yo', yi', yw', ya', y1', y2', yK', yW', yL', yq', nm', nv', no', yA', lf', rt', iK', iN')) : wpY_goOn post (yma, ypo, yhe, yvm, yin, yfi, yde, yap, yas, yto, yan, yco, yti, yna, yac, yen, yic, o, l, kS, d, pl, ys, yk, yn, yp, yf, yo, yi, yw, ya, y1, y2, yK, yW, yL, yq, nm, nv, no, yA, lf, rt, iK, iN) (nI g) := by
  have eg' : (nI g).toNatClampNeg = g := nI_clamp (by omega)
  have hin : vp_in (nI g) 601 := vp_in_nI (by omega) (by omega)
  have hiq : vp_in (nI q) 40 := vp_in_nI hq (by omega)
  refine yg_pre hg eo hq ek (by omega) (fun w => absurd w (by omega)) (fun e => absurd e (by omega)) (fun _ _ _ => ?_) (fun _ _ w => absurd (by rw [e2]; decide) w)
  unfold wpY_goOnFirst
  dsimp only
  rw [eg', eo, nI_clamp (show q < 2 ^ 31 by omega)]
  refine ⟨hin, nm_e ⟨hin, hiq, nm_e ?_⟩⟩
  exact br_f (by decide) (br_f (by decide) (br_t et (br_f (by decide) (br_t rfl (⟨hin, yr_bind en hn (hA _ hp)⟩)))))
theorem yf_50 {yma ypo yhe yvm : Int32} {yin : Int64} {yfi yde yap yas yto : Int32} {yan : Int64} {yco yti yna yac yen yic : Int32} {o l kS d : Nat → Int32} {pl ys : Nat → Int64} {yk yn yp yf yo : Nat → Int32} {yi : Nat → Int64} {yw ya y1 y2 : Nat → Int32} {yK : Nat → Int64} {yW : Nat → Int32} {yL : Nat → Int64} {yq nm : Nat → Int32} {nv : Nat → Int64} {no : Nat → Int32} {yA lf rt : Nat → Int64} {iK iN : Nat → Int32} {yma' ypo' yhe' yvm' : Int32} {yin' : Int64} {yfi' yde' yap' yas' yto' : Int32} {yan' : Int64} {yco' yti' yna' yac' yen' yic' : Int32} {o' l' kS' d' : Nat → Int32} {pl' ys' : Nat → Int64} {yk' yn' yp' yf' yo' : Nat → Int32} {yi' : Nat → Int64} {yw' ya' y1' y2' : Nat → Int32} {yK' : Nat → Int64} {yW' : Nat → Int32} {yL' : Nat → Int64} {yq' nm' : Nat → Int32} {nv' : Nat → Int64} {no' : Nat → Int32} {yA' lf' rt' : Nat → Int64} {iK' iN' : Nat → Int32} {post : SY → Prop} {g q : Nat} (hg : g < 600) (eo : yo g = nI q) (hq : q < 40) (ek : yk q = nI 50) (e2 : y2 g = -1) {κ r : Nat} {x : Int32} (et : yto = 0) (ew : yan = yy_t κ x) (hκ : κ ≤ 5) (hr : (2 ≤ κ → r = 1) ∧ (κ < 2 → r = 2)) (hA : ∀ Q : SY → Prop, Q (yma', ypo', yhe', yvm', yin', yfi', yde', yap', yas', yto', yan', yco', yti', yna', yac', yen', yic', o', l', kS', d', pl', ys', yk', yn', yp', yf', yo', yi', yw', ya', y1', y2', yK', yW', yL', yq', nm', nv', no', yA', lf', rt', iK', iN') → wpY_askSecond Q (yma, ypo, yhe, yvm, yin, yfi, yde, yap, yas, yto, yan, yco, yti, yna, yac, yen, yic, o, l, kS, d, pl, ys, yk, yn, yp, yf, yo, yi, yw, ya, y1, y2, yK, yW, yL, yq, nm, nv, no, yA, lf, rt, iK, iN) (nI g) (nI r) (yi g) (yw g)) (hp : post (yma', ypo', yhe', yvm', yin', yfi', yde', yap', yas', yto', yan', yco', yti', yna', yac', yen', yic', o', l', kS', d', pl', ys', yk', yn', yp', yf', yo', yi', yw', ya', y1', y2', yK', yW', yL', yq', nm', nv', no', yA', lf', rt', iK', iN')) : wpY_goOn post (yma, ypo, yhe, yvm, yin, yfi, yde, yap, yas, yto, yan, yco, yti, yna, yac, yen, yic, o, l, kS, d, pl, ys, yk, yn, yp, yf, yo, yi, yw, ya, y1, y2, yK, yW, yL, yq, nm, nv, no, yA, lf, rt, iK, iN) (nI g) := by
  have eg' : (nI g).toNatClampNeg = g := nI_clamp (by omega)
  have hin : vp_in (nI g) 601 := vp_in_nI (by omega) (by omega)
  have hiq : vp_in (nI q) 40 := vp_in_nI hq (by omega)
  refine yg_pre hg eo hq ek (by omega) (fun w => absurd w (by omega)) (fun e => absurd e (by omega)) (fun _ _ _ => ?_) (fun _ _ w => absurd (by rw [e2]; decide) w)
  unfold wpY_goOnFirst
  dsimp only
  rw [eg', eo, nI_clamp (show q < 2 ^ 31 by omega)]
  refine ⟨hin, nm_e ⟨hin, hiq, nm_e ?_⟩⟩
  have k183 : ∀ j : Nat, j = r → wY_goOnFirst_183 (fun u => match u with | (yma', ypo', yhe', yvm', yin', yfi', yde', yap', yas', yto', yan', yco', yti', yna', yac', yen', yic', o', l', kS', d', pl', ys', yk', yn', yp', yf', yo', yi', yw', ya', y1', y2', yK', yW', yL', yq', nm', nv', no', yA', lf', rt', iK', iN') => post (yma', ypo', yhe', yvm', yin', yfi', yde', yap', yas', yto', yan', yco', yti', yna', yac', yen', yic', o', l', kS', d', pl', ys', yk', yn', yp', yf', yo', yi', yw', ya', y1', y2', yK', yW', yL', yq', nm', nv', no', yA', lf', rt', iK', iN')) (nI g) (yi g) (nI j) (nI g) yma ypo yhe yvm yin yfi yde yap yas yto yan yco yti yna yac yen yic o l kS d pl ys yk yn yp yf yo yi yw ya y1 y2 yK yW yL yq nm nv no yA lf rt iK iN := by
    intro j hj
    subst hj
    unfold wY_goOnFirst_183
    rw [eg']
    exact ⟨hin, hA _ hp⟩
  refine br_f (by decide) (br_f (by decide) (br_t et (br_f (by decide) (br_f (by decide) (br_t rfl (?_))))))
  rw [ew]
  rw [ew] at k183
  exact ym_isEmpty (by omega) (fun w => br_t rfl (k183 1 (hr.1 w).symm)) (fun w => br_f (by decide) (k183 2 (hr.2 w).symm))
theorem yf_39m {yma ypo yhe yvm : Int32} {yin : Int64} {yfi yde yap yas yto : Int32} {yan : Int64} {yco yti yna yac yen yic : Int32} {o l kS d : Nat → Int32} {pl ys : Nat → Int64} {yk yn yp yf yo : Nat → Int32} {yi : Nat → Int64} {yw ya y1 y2 : Nat → Int32} {yK : Nat → Int64} {yW : Nat → Int32} {yL : Nat → Int64} {yq nm : Nat → Int32} {nv : Nat → Int64} {no : Nat → Int32} {yA lf rt : Nat → Int64} {iK iN : Nat → Int32} {post : SY → Prop} {g q : Nat} (hg : g < 600) (eo : yo g = nI q) (hq : q < 40) (ek : yk q = nI 39) (e2 : y2 g = -1) {a : Nat} (ea : yas = nI (a + 1)) {κ c : Nat} {x : Int32} (et : yto = 0) (ew : yan = yy_t κ x) (hκ : κ ≤ 5) (he : κ < 2 ↔ True) (ec : yco = nI c) (hc : c ≤ 600) (ht : c = 600 → post (yma, ypo, yhe, yvm, yin, yfi, yde, yap, yas, yto, yan, yco, 1, yna, yac, yen, yic, o, l, kS, d, pl, ys, yk, yn, yp, yf, yo, yi, yw, ya, y1, y2, yK, yW, yL, yq, nm, nv, no, yA, lf, rt, iK, iN)) (hp : c < 600 → post (yma, ypo, yhe, yvm, yin, yfi, yde, yap, (nI a), 0, (yy_t 1 0), (nI (c + 1)), yti, yna, yac, yen, yic, o, l, kS, d, pl, ys, yk, yn, yp, yf, yo, yi, yw, ya, y1, y2, yK, yW, yL, yq, nm, nv, no, yA, lf, rt, iK, iN)) : wpY_goOn post (yma, ypo, yhe, yvm, yin, yfi, yde, yap, yas, yto, yan, yco, yti, yna, yac, yen, yic, o, l, kS, d, pl, ys, yk, yn, yp, yf, yo, yi, yw, ya, y1, y2, yK, yW, yL, yq, nm, nv, no, yA, lf, rt, iK, iN) (nI g) := by
  have eg' : (nI g).toNatClampNeg = g := nI_clamp (by omega)
  have hin : vp_in (nI g) 601 := vp_in_nI (by omega) (by omega)
  have hiq : vp_in (nI q) 40 := vp_in_nI hq (by omega)
  refine yg_pre hg eo hq ek (by omega) (fun w => absurd w (by omega)) (fun e => absurd e (by omega)) (fun _ _ _ => ?_) (fun _ _ w => absurd (by rw [e2]; decide) w)
  unfold wpY_goOnFirst
  dsimp only
  rw [eg', eo, nI_clamp (show q < 2 ^ 31 by omega)]
  refine ⟨hin, nm_e ⟨hin, hiq, nm_e ?_⟩⟩
  have k227 : ∀ r z : Int32, z = r → wY_goOnFirst_227 (fun u => match u with | (yma', ypo', yhe', yvm', yin', yfi', yde', yap', yas', yto', yan', yco', yti', yna', yac', yen', yic', o', l', kS', d', pl', ys', yk', yn', yp', yf', yo', yi', yw', ya', y1', y2', yK', yW', yL', yq', nm', nv', no', yA', lf', rt', iK', iN') => post (yma', ypo', yhe', yvm', yin', yfi', yde', yap', yas', yto', yan', yco', yti', yna', yac', yen', yic', o', l', kS', d', pl', ys', yk', yn', yp', yf', yo', yi', yw', ya', y1', y2', yK', yW', yL', yq', nm', nv', no', yA', lf', rt', iK', iN')) (nI g) (nI 39) (yi g) z r yma ypo yhe yvm yin yfi yde yap yas yto yan yco yti yna yac yen yic o l kS d pl ys yk yn yp yf yo yi yw ya y1 y2 yK yW yL yq nm nv no yA lf rt iK iN := by
    intro r z hz
    unfold wY_goOnFirst_227
    refine br_t hz.symm ?_
    by_cases c6 : c = 600
    · subst c6
      exact yr_tired ec (br_t rfl (ht rfl))
    · refine yr_count ec (by omega) (br_f (by decide) ?_)
      refine br_f (by decide) ?_
      unfold wY_goOnFirst_251
      exact ym_truth (fun z => yr_tell ea (hp (by omega))) (fun z => absurd rfl z)
  refine br_f (by decide) (br_f (by decide) (br_t et (br_f (by decide) (br_f (by decide) (br_f (by decide) (br_t rfl (?_)))))))
  unfold wY_goOnFirst_208
  rw [ew]
  rw [ew] at k227
  exact ym_isEmpty (by omega) (fun w => absurd (he.mpr trivial) (by omega)) (fun w => br_t rfl (k227 1 1 rfl))
theorem yf_39a {yma ypo yhe yvm : Int32} {yin : Int64} {yfi yde yap yas yto : Int32} {yan : Int64} {yco yti yna yac yen yic : Int32} {o l kS d : Nat → Int32} {pl ys : Nat → Int64} {yk yn yp yf yo : Nat → Int32} {yi : Nat → Int64} {yw ya y1 y2 : Nat → Int32} {yK : Nat → Int64} {yW : Nat → Int32} {yL : Nat → Int64} {yq nm : Nat → Int32} {nv : Nat → Int64} {no : Nat → Int32} {yA lf rt : Nat → Int64} {iK iN : Nat → Int32} {yma' ypo' yhe' yvm' : Int32} {yin' : Int64} {yfi' yde' yap' yas' yto' : Int32} {yan' : Int64} {yco' yti' yna' yac' yen' yic' : Int32} {o' l' kS' d' : Nat → Int32} {pl' ys' : Nat → Int64} {yk' yn' yp' yf' yo' : Nat → Int32} {yi' : Nat → Int64} {yw' ya' y1' y2' : Nat → Int32} {yK' : Nat → Int64} {yW' : Nat → Int32} {yL' : Nat → Int64} {yq' nm' : Nat → Int32} {nv' : Nat → Int64} {no' : Nat → Int32} {yA' lf' rt' : Nat → Int64} {iK' iN' : Nat → Int32} {post : SY → Prop} {g q : Nat} (hg : g < 600) (eo : yo g = nI q) (hq : q < 40) (ek : yk q = nI 39) (e2 : y2 g = -1) {κ : Nat} {x : Int32} (et : yto = 0) (ew : yan = yy_t κ x) (hκ : κ ≤ 5) (he : κ < 2 ↔ False) (hA : ∀ Q : SY → Prop, Q (yma', ypo', yhe', yvm', yin', yfi', yde', yap', yas', yto', yan', yco', yti', yna', yac', yen', yic', o', l', kS', d', pl', ys', yk', yn', yp', yf', yo', yi', yw', ya', y1', y2', yK', yW', yL', yq', nm', nv', no', yA', lf', rt', iK', iN') → wpY_askSecond Q (yma, ypo, yhe, yvm, yin, yfi, yde, yap, yas, yto, yan, yco, yti, yna, yac, yen, yic, o, l, kS, d, pl, ys, yk, yn, yp, yf, yo, yi, yw, ya, y1, y2, yK, yW, yL, yq, nm, nv, no, yA, lf, rt, iK, iN) (nI g) (nI 1) (yi g) (yw g)) (hp : post (yma', ypo', yhe', yvm', yin', yfi', yde', yap', yas', yto', yan', yco', yti', yna', yac', yen', yic', o', l', kS', d', pl', ys', yk', yn', yp', yf', yo', yi', yw', ya', y1', y2', yK', yW', yL', yq', nm', nv', no', yA', lf', rt', iK', iN')) : wpY_goOn post (yma, ypo, yhe, yvm, yin, yfi, yde, yap, yas, yto, yan, yco, yti, yna, yac, yen, yic, o, l, kS, d, pl, ys, yk, yn, yp, yf, yo, yi, yw, ya, y1, y2, yK, yW, yL, yq, nm, nv, no, yA, lf, rt, iK, iN) (nI g) := by
  have eg' : (nI g).toNatClampNeg = g := nI_clamp (by omega)
  have hin : vp_in (nI g) 601 := vp_in_nI (by omega) (by omega)
  have hiq : vp_in (nI q) 40 := vp_in_nI hq (by omega)
  refine yg_pre hg eo hq ek (by omega) (fun w => absurd w (by omega)) (fun e => absurd e (by omega)) (fun _ _ _ => ?_) (fun _ _ w => absurd (by rw [e2]; decide) w)
  unfold wpY_goOnFirst
  dsimp only
  rw [eg', eo, nI_clamp (show q < 2 ^ 31 by omega)]
  refine ⟨hin, nm_e ⟨hin, hiq, nm_e ?_⟩⟩
  have k227 : ∀ r z : Int32, ¬ r = z → wY_goOnFirst_227 (fun u => match u with | (yma', ypo', yhe', yvm', yin', yfi', yde', yap', yas', yto', yan', yco', yti', yna', yac', yen', yic', o', l', kS', d', pl', ys', yk', yn', yp', yf', yo', yi', yw', ya', y1', y2', yK', yW', yL', yq', nm', nv', no', yA', lf', rt', iK', iN') => post (yma', ypo', yhe', yvm', yin', yfi', yde', yap', yas', yto', yan', yco', yti', yna', yac', yen', yic', o', l', kS', d', pl', ys', yk', yn', yp', yf', yo', yi', yw', ya', y1', y2', yK', yW', yL', yq', nm', nv', no', yA', lf', rt', iK', iN')) (nI g) (nI 39) (yi g) z r yma ypo yhe yvm yin yfi yde yap yas yto yan yco yti yna yac yen yic o l kS d pl ys yk yn yp yf yo yi yw ya y1 y2 yK yW yL yq nm nv no yA lf rt iK iN := by
    intro r z hz
    unfold wY_goOnFirst_227
    rw [eg']
    exact br_f hz ⟨hin, hA _ hp⟩
  refine br_f (by decide) (br_f (by decide) (br_t et (br_f (by decide) (br_f (by decide) (br_f (by decide) (br_t rfl (?_)))))))
  unfold wY_goOnFirst_208
  rw [ew]
  rw [ew] at k227
  exact ym_isEmpty (by omega) (fun w => br_t rfl (k227 0 1 (by decide))) (fun w => (he.mp w).elim)
theorem yf_40m {yma ypo yhe yvm : Int32} {yin : Int64} {yfi yde yap yas yto : Int32} {yan : Int64} {yco yti yna yac yen yic : Int32} {o l kS d : Nat → Int32} {pl ys : Nat → Int64} {yk yn yp yf yo : Nat → Int32} {yi : Nat → Int64} {yw ya y1 y2 : Nat → Int32} {yK : Nat → Int64} {yW : Nat → Int32} {yL : Nat → Int64} {yq nm : Nat → Int32} {nv : Nat → Int64} {no : Nat → Int32} {yA lf rt : Nat → Int64} {iK iN : Nat → Int32} {post : SY → Prop} {g q : Nat} (hg : g < 600) (eo : yo g = nI q) (hq : q < 40) (ek : yk q = nI 40) (e2 : y2 g = -1) {a : Nat} (ea : yas = nI (a + 1)) {κ c : Nat} {x : Int32} (et : yto = 0) (ew : yan = yy_t κ x) (hκ : κ ≤ 5) (he : κ < 2 ↔ False) (ec : yco = nI c) (hc : c ≤ 600) (ht : c = 600 → post (yma, ypo, yhe, yvm, yin, yfi, yde, yap, yas, yto, yan, yco, 1, yna, yac, yen, yic, o, l, kS, d, pl, ys, yk, yn, yp, yf, yo, yi, yw, ya, y1, y2, yK, yW, yL, yq, nm, nv, no, yA, lf, rt, iK, iN)) (hp : c < 600 → post (yma, ypo, yhe, yvm, yin, yfi, yde, yap, (nI a), 0, (yy_t 2 0), (nI (c + 1)), yti, yna, yac, yen, yic, o, l, kS, d, pl, ys, yk, yn, yp, yf, yo, yi, yw, ya, y1, y2, yK, yW, yL, yq, nm, nv, no, yA, lf, rt, iK, iN)) : wpY_goOn post (yma, ypo, yhe, yvm, yin, yfi, yde, yap, yas, yto, yan, yco, yti, yna, yac, yen, yic, o, l, kS, d, pl, ys, yk, yn, yp, yf, yo, yi, yw, ya, y1, y2, yK, yW, yL, yq, nm, nv, no, yA, lf, rt, iK, iN) (nI g) := by
  have eg' : (nI g).toNatClampNeg = g := nI_clamp (by omega)
  have hin : vp_in (nI g) 601 := vp_in_nI (by omega) (by omega)
  have hiq : vp_in (nI q) 40 := vp_in_nI hq (by omega)
  refine yg_pre hg eo hq ek (by omega) (fun w => absurd w (by omega)) (fun e => absurd e (by omega)) (fun _ _ _ => ?_) (fun _ _ w => absurd (by rw [e2]; decide) w)
  unfold wpY_goOnFirst
  dsimp only
  rw [eg', eo, nI_clamp (show q < 2 ^ 31 by omega)]
  refine ⟨hin, nm_e ⟨hin, hiq, nm_e ?_⟩⟩
  have k227 : ∀ r z : Int32, z = r → wY_goOnFirst_227 (fun u => match u with | (yma', ypo', yhe', yvm', yin', yfi', yde', yap', yas', yto', yan', yco', yti', yna', yac', yen', yic', o', l', kS', d', pl', ys', yk', yn', yp', yf', yo', yi', yw', ya', y1', y2', yK', yW', yL', yq', nm', nv', no', yA', lf', rt', iK', iN') => post (yma', ypo', yhe', yvm', yin', yfi', yde', yap', yas', yto', yan', yco', yti', yna', yac', yen', yic', o', l', kS', d', pl', ys', yk', yn', yp', yf', yo', yi', yw', ya', y1', y2', yK', yW', yL', yq', nm', nv', no', yA', lf', rt', iK', iN')) (nI g) (nI 40) (yi g) z r yma ypo yhe yvm yin yfi yde yap yas yto yan yco yti yna yac yen yic o l kS d pl ys yk yn yp yf yo yi yw ya y1 y2 yK yW yL yq nm nv no yA lf rt iK iN := by
    intro r z hz
    unfold wY_goOnFirst_227
    refine br_t hz.symm ?_
    by_cases c6 : c = 600
    · subst c6
      exact yr_tired ec (br_t rfl (ht rfl))
    · refine yr_count ec (by omega) (br_f (by decide) ?_)
      refine br_t rfl ?_
      unfold wY_goOnFirst_251
      exact ym_truth (fun z => absurd z (by decide)) (fun z => yr_tell ea (hp (by omega)))
  refine br_f (by decide) (br_f (by decide) (br_t et (br_f (by decide) (br_f (by decide) (br_f (by decide) (br_f (by decide) (br_t rfl (?_))))))))
  unfold wY_goOnFirst_208
  rw [ew]
  rw [ew] at k227
  exact ym_isEmpty (by omega) (fun w => br_f (by decide) (k227 0 0 rfl)) (fun w => (he.mp w).elim)
theorem yf_40a {yma ypo yhe yvm : Int32} {yin : Int64} {yfi yde yap yas yto : Int32} {yan : Int64} {yco yti yna yac yen yic : Int32} {o l kS d : Nat → Int32} {pl ys : Nat → Int64} {yk yn yp yf yo : Nat → Int32} {yi : Nat → Int64} {yw ya y1 y2 : Nat → Int32} {yK : Nat → Int64} {yW : Nat → Int32} {yL : Nat → Int64} {yq nm : Nat → Int32} {nv : Nat → Int64} {no : Nat → Int32} {yA lf rt : Nat → Int64} {iK iN : Nat → Int32} {yma' ypo' yhe' yvm' : Int32} {yin' : Int64} {yfi' yde' yap' yas' yto' : Int32} {yan' : Int64} {yco' yti' yna' yac' yen' yic' : Int32} {o' l' kS' d' : Nat → Int32} {pl' ys' : Nat → Int64} {yk' yn' yp' yf' yo' : Nat → Int32} {yi' : Nat → Int64} {yw' ya' y1' y2' : Nat → Int32} {yK' : Nat → Int64} {yW' : Nat → Int32} {yL' : Nat → Int64} {yq' nm' : Nat → Int32} {nv' : Nat → Int64} {no' : Nat → Int32} {yA' lf' rt' : Nat → Int64} {iK' iN' : Nat → Int32} {post : SY → Prop} {g q : Nat} (hg : g < 600) (eo : yo g = nI q) (hq : q < 40) (ek : yk q = nI 40) (e2 : y2 g = -1) {κ : Nat} {x : Int32} (et : yto = 0) (ew : yan = yy_t κ x) (hκ : κ ≤ 5) (he : κ < 2 ↔ True) (hA : ∀ Q : SY → Prop, Q (yma', ypo', yhe', yvm', yin', yfi', yde', yap', yas', yto', yan', yco', yti', yna', yac', yen', yic', o', l', kS', d', pl', ys', yk', yn', yp', yf', yo', yi', yw', ya', y1', y2', yK', yW', yL', yq', nm', nv', no', yA', lf', rt', iK', iN') → wpY_askSecond Q (yma, ypo, yhe, yvm, yin, yfi, yde, yap, yas, yto, yan, yco, yti, yna, yac, yen, yic, o, l, kS, d, pl, ys, yk, yn, yp, yf, yo, yi, yw, ya, y1, y2, yK, yW, yL, yq, nm, nv, no, yA, lf, rt, iK, iN) (nI g) (nI 1) (yi g) (yw g)) (hp : post (yma', ypo', yhe', yvm', yin', yfi', yde', yap', yas', yto', yan', yco', yti', yna', yac', yen', yic', o', l', kS', d', pl', ys', yk', yn', yp', yf', yo', yi', yw', ya', y1', y2', yK', yW', yL', yq', nm', nv', no', yA', lf', rt', iK', iN')) : wpY_goOn post (yma, ypo, yhe, yvm, yin, yfi, yde, yap, yas, yto, yan, yco, yti, yna, yac, yen, yic, o, l, kS, d, pl, ys, yk, yn, yp, yf, yo, yi, yw, ya, y1, y2, yK, yW, yL, yq, nm, nv, no, yA, lf, rt, iK, iN) (nI g) := by
  have eg' : (nI g).toNatClampNeg = g := nI_clamp (by omega)
  have hin : vp_in (nI g) 601 := vp_in_nI (by omega) (by omega)
  have hiq : vp_in (nI q) 40 := vp_in_nI hq (by omega)
  refine yg_pre hg eo hq ek (by omega) (fun w => absurd w (by omega)) (fun e => absurd e (by omega)) (fun _ _ _ => ?_) (fun _ _ w => absurd (by rw [e2]; decide) w)
  unfold wpY_goOnFirst
  dsimp only
  rw [eg', eo, nI_clamp (show q < 2 ^ 31 by omega)]
  refine ⟨hin, nm_e ⟨hin, hiq, nm_e ?_⟩⟩
  have k227 : ∀ r z : Int32, ¬ r = z → wY_goOnFirst_227 (fun u => match u with | (yma', ypo', yhe', yvm', yin', yfi', yde', yap', yas', yto', yan', yco', yti', yna', yac', yen', yic', o', l', kS', d', pl', ys', yk', yn', yp', yf', yo', yi', yw', ya', y1', y2', yK', yW', yL', yq', nm', nv', no', yA', lf', rt', iK', iN') => post (yma', ypo', yhe', yvm', yin', yfi', yde', yap', yas', yto', yan', yco', yti', yna', yac', yen', yic', o', l', kS', d', pl', ys', yk', yn', yp', yf', yo', yi', yw', ya', y1', y2', yK', yW', yL', yq', nm', nv', no', yA', lf', rt', iK', iN')) (nI g) (nI 40) (yi g) z r yma ypo yhe yvm yin yfi yde yap yas yto yan yco yti yna yac yen yic o l kS d pl ys yk yn yp yf yo yi yw ya y1 y2 yK yW yL yq nm nv no yA lf rt iK iN := by
    intro r z hz
    unfold wY_goOnFirst_227
    rw [eg']
    exact br_f hz ⟨hin, hA _ hp⟩
  refine br_f (by decide) (br_f (by decide) (br_t et (br_f (by decide) (br_f (by decide) (br_f (by decide) (br_f (by decide) (br_t rfl (?_))))))))
  unfold wY_goOnFirst_208
  rw [ew]
  rw [ew] at k227
  exact ym_isEmpty (by omega) (fun w => absurd (he.mpr trivial) (by omega)) (fun w => br_f (by decide) (k227 1 0 (by decide)))
theorem yf_31a {yma ypo yhe yvm : Int32} {yin : Int64} {yfi yde yap yas yto : Int32} {yan : Int64} {yco yti yna yac yen yic : Int32} {o l kS d : Nat → Int32} {pl ys : Nat → Int64} {yk yn yp yf yo : Nat → Int32} {yi : Nat → Int64} {yw ya y1 y2 : Nat → Int32} {yK : Nat → Int64} {yW : Nat → Int32} {yL : Nat → Int64} {yq nm : Nat → Int32} {nv : Nat → Int64} {no : Nat → Int32} {yA lf rt : Nat → Int64} {iK iN : Nat → Int32} {yma' ypo' yhe' yvm' : Int32} {yin' : Int64} {yfi' yde' yap' yas' yto' : Int32} {yan' : Int64} {yco' yti' yna' yac' yen' yic' : Int32} {o' l' kS' d' : Nat → Int32} {pl' ys' : Nat → Int64} {yk' yn' yp' yf' yo' : Nat → Int32} {yi' : Nat → Int64} {yw' ya' y1' y2' : Nat → Int32} {yK' : Nat → Int64} {yW' : Nat → Int32} {yL' : Nat → Int64} {yq' nm' : Nat → Int32} {nv' : Nat → Int64} {no' : Nat → Int32} {yA' lf' rt' : Nat → Int64} {iK' iN' : Nat → Int32} {post : SY → Prop} {g q : Nat} (hg : g < 600) (eo : yo g = nI q) (hq : q < 40) (ek : yk q = nI 31) (e2 : y2 g = -1) (et : yto = 1) (hA : ∀ Q : SY → Prop, Q (yma', ypo', yhe', yvm', yin', yfi', yde', yap', yas', yto', yan', yco', yti', yna', yac', yen', yic', o', l', kS', d', pl', ys', yk', yn', yp', yf', yo', yi', yw', ya', y1', y2', yK', yW', yL', yq', nm', nv', no', yA', lf', rt', iK', iN') → wpY_askSecond Q (yma, ypo, yhe, yvm, yin, yfi, yde, yap, yas, yto, yan, yco, yti, yna, yac, yen, yic, o, l, kS, d, pl, ys, yk, yn, yp, yf, yo, yi, yw, ya, y1, y2, yK, yW, yL, yq, nm, nv, no, yA, lf, rt, iK, iN) (nI g) (nI 1) (yi g) (yw g)) (hp : post (yma', ypo', yhe', yvm', yin', yfi', yde', yap', yas', yto', yan', yco', yti', yna', yac', yen', yic', o', l', kS', d', pl', ys', yk', yn', yp', yf', yo', yi', yw', ya', y1', y2', yK', yW', yL', yq', nm', nv', no', yA', lf', rt', iK', iN')) : wpY_goOn post (yma, ypo, yhe, yvm, yin, yfi, yde, yap, yas, yto, yan, yco, yti, yna, yac, yen, yic, o, l, kS, d, pl, ys, yk, yn, yp, yf, yo, yi, yw, ya, y1, y2, yK, yW, yL, yq, nm, nv, no, yA, lf, rt, iK, iN) (nI g) := by
  have eg' : (nI g).toNatClampNeg = g := nI_clamp (by omega)
  have hin : vp_in (nI g) 601 := vp_in_nI (by omega) (by omega)
  have hiq : vp_in (nI q) 40 := vp_in_nI hq (by omega)
  refine yg_pre hg eo hq ek (by omega) (fun w => absurd w (by omega)) (fun e => absurd e (by omega)) (fun _ _ _ => ?_) (fun _ _ w => absurd (by rw [e2]; decide) w)
  unfold wpY_goOnFirst
  dsimp only
  rw [eg', eo, nI_clamp (show q < 2 ^ 31 by omega)]
  refine ⟨hin, nm_e ⟨hin, hiq, nm_e ?_⟩⟩
  exact br_f (by decide) (br_t rfl (br_t et ⟨hin, hA _ hp⟩))
theorem yf_31t {yma ypo yhe yvm : Int32} {yin : Int64} {yfi yde yap yas yto : Int32} {yan : Int64} {yco yti yna yac yen yic : Int32} {o l kS d : Nat → Int32} {pl ys : Nat → Int64} {yk yn yp yf yo : Nat → Int32} {yi : Nat → Int64} {yw ya y1 y2 : Nat → Int32} {yK : Nat → Int64} {yW : Nat → Int32} {yL : Nat → Int64} {yq nm : Nat → Int32} {nv : Nat → Int64} {no : Nat → Int32} {yA lf rt : Nat → Int64} {iK iN : Nat → Int32} {post : SY → Prop} {g q : Nat} (hg : g < 600) (eo : yo g = nI q) (hq : q < 40) (ek : yk q = nI 31) (e2 : y2 g = -1) {a : Nat} (ea : yas = nI (a + 1)) (et : ¬ yto = 1) (hp : post (yma, ypo, yhe, yvm, yin, yfi, yde, yap, (nI a), yto, yan, yco, yti, yna, yac, yen, yic, o, l, kS, d, pl, ys, yk, yn, yp, yf, yo, yi, yw, ya, y1, y2, yK, yW, yL, yq, nm, nv, no, yA, lf, rt, iK, iN)) : wpY_goOn post (yma, ypo, yhe, yvm, yin, yfi, yde, yap, yas, yto, yan, yco, yti, yna, yac, yen, yic, o, l, kS, d, pl, ys, yk, yn, yp, yf, yo, yi, yw, ya, y1, y2, yK, yW, yL, yq, nm, nv, no, yA, lf, rt, iK, iN) (nI g) := by
  have eg' : (nI g).toNatClampNeg = g := nI_clamp (by omega)
  have hin : vp_in (nI g) 601 := vp_in_nI (by omega) (by omega)
  have hiq : vp_in (nI q) 40 := vp_in_nI hq (by omega)
  refine yg_pre hg eo hq ek (by omega) (fun w => absurd w (by omega)) (fun e => absurd e (by omega)) (fun _ _ _ => ?_) (fun _ _ w => absurd (by rw [e2]; decide) w)
  unfold wpY_goOnFirst
  dsimp only
  rw [eg', eo, nI_clamp (show q < 2 ^ 31 by omega)]
  refine ⟨hin, nm_e ⟨hin, hiq, nm_e ?_⟩⟩
  exact br_f (by decide) (br_t rfl (br_f et (yr_tell ea hp)))
theorem yf_41s {yma ypo yhe yvm : Int32} {yin : Int64} {yfi yde yap yas yto : Int32} {yan : Int64} {yco yti yna yac yen yic : Int32} {o l kS d : Nat → Int32} {pl ys : Nat → Int64} {yk yn yp yf yo : Nat → Int32} {yi : Nat → Int64} {yw ya y1 y2 : Nat → Int32} {yK : Nat → Int64} {yW : Nat → Int32} {yL : Nat → Int64} {yq nm : Nat → Int32} {nv : Nat → Int64} {no : Nat → Int32} {yA lf rt : Nat → Int64} {iK iN : Nat → Int32} {post : SY → Prop} {g q : Nat} (hg : g < 600) (eo : yo g = nI q) (hq : q < 40) (ek : yk q = nI 41) (e2 : y2 g = -1) {a : Nat} (ea : yas = nI (a + 1)) {κ f : Nat} {x : Int32} (ha : a < 600) (et : yto = 0) (ew : yan = yy_t κ x) (hκ : κ ≤ 5) (e1 : y1 g = nI f) (h0 : 2 ≤ κ → post (yma, ypo, yhe, yvm, yin, yfi, yde, yap, (nI a), 0, yan, yco, yti, yna, yac, yen, yic, o, l, kS, d, pl, ys, yk, yn, yp, yf, yo, yi, yw, ya, y1, y2, yK, (upd yW g 1), yL, yq, nm, nv, no, yA, lf, rt, iK, iN)) (h1 : κ < 2 → post (yma, ypo, yhe, yvm, yin, yfi, yde, yap, (nI (a + 2)), yto, yan, yco, yti, yna, yac, yen, yic, o, l, kS, d, pl, ys, yk, yn, yp, yf, yo, yi, yw, ya, y1, y2, yK, yW, yL, (upd yq (a + 1) (nI f)), nm, nv, no, yA, lf, rt, iK, iN)) : wpY_goOn post (yma, ypo, yhe, yvm, yin, yfi, yde, yap, yas, yto, yan, yco, yti, yna, yac, yen, yic, o, l, kS, d, pl, ys, yk, yn, yp, yf, yo, yi, yw, ya, y1, y2, yK, yW, yL, yq, nm, nv, no, yA, lf, rt, iK, iN) (nI g) := by
  have eg' : (nI g).toNatClampNeg = g := nI_clamp (by omega)
  have hin : vp_in (nI g) 601 := vp_in_nI (by omega) (by omega)
  have hiq : vp_in (nI q) 40 := vp_in_nI hq (by omega)
  refine yg_pre hg eo hq ek (by omega) (fun w => absurd w (by omega)) (fun e => absurd e (by omega)) (fun _ _ _ => ?_) (fun _ _ w => absurd (by rw [e2]; decide) w)
  unfold wpY_goOnFirst
  dsimp only
  rw [eg', eo, nI_clamp (show q < 2 ^ 31 by omega)]
  refine ⟨hin, nm_e ⟨hin, hiq, nm_e ?_⟩⟩
  refine br_t rfl ?_
  unfold wpY_goOnElse
  dsimp only
  rw [eg']
  rw [e1]
  refine br_t et ?_
  rw [ew]
  rw [ew] at h0 h1
  exact ym_isEmpty (by omega) (fun w => br_t rfl ⟨hin, nm_e (yr_tell ea (h0 w))⟩) (fun w => br_f (by decide) ⟨hin, yr_askAgain ea (by omega) (h1 w)⟩)
theorem yf_41e {yma ypo yhe yvm : Int32} {yin : Int64} {yfi yde yap yas yto : Int32} {yan : Int64} {yco yti yna yac yen yic : Int32} {o l kS d : Nat → Int32} {pl ys : Nat → Int64} {yk yn yp yf yo : Nat → Int32} {yi : Nat → Int64} {yw ya y1 y2 : Nat → Int32} {yK : Nat → Int64} {yW : Nat → Int32} {yL : Nat → Int64} {yq nm : Nat → Int32} {nv : Nat → Int64} {no : Nat → Int32} {yA lf rt : Nat → Int64} {iK iN : Nat → Int32} {post : SY → Prop} {g q : Nat} (hg : g < 600) (eo : yo g = nI q) (hq : q < 40) (ek : yk q = nI 41) (e2 : y2 g = -1) {a : Nat} (ea : yas = nI (a + 1)) (et : ¬ yto = 0) (eW : yW g = 1) (hp : post (yma, ypo, yhe, yvm, yin, yfi, yde, yap, (nI a), 1, 0, yco, yti, yna, yac, yen, yic, o, l, kS, d, pl, ys, yk, yn, yp, yf, yo, yi, yw, ya, y1, y2, yK, yW, yL, yq, nm, nv, no, yA, lf, rt, iK, iN)) : wpY_goOn post (yma, ypo, yhe, yvm, yin, yfi, yde, yap, yas, yto, yan, yco, yti, yna, yac, yen, yic, o, l, kS, d, pl, ys, yk, yn, yp, yf, yo, yi, yw, ya, y1, y2, yK, yW, yL, yq, nm, nv, no, yA, lf, rt, iK, iN) (nI g) := by
  have eg' : (nI g).toNatClampNeg = g := nI_clamp (by omega)
  have hin : vp_in (nI g) 601 := vp_in_nI (by omega) (by omega)
  have hiq : vp_in (nI q) 40 := vp_in_nI hq (by omega)
  refine yg_pre hg eo hq ek (by omega) (fun w => absurd w (by omega)) (fun e => absurd e (by omega)) (fun _ _ _ => ?_) (fun _ _ w => absurd (by rw [e2]; decide) w)
  unfold wpY_goOnFirst
  dsimp only
  rw [eg', eo, nI_clamp (show q < 2 ^ 31 by omega)]
  refine ⟨hin, nm_e ⟨hin, hiq, nm_e ?_⟩⟩
  refine br_t rfl ?_
  unfold wpY_goOnElse
  dsimp only
  rw [eg']
  exact br_f et ⟨hin, br_t eW (yr_tell ea hp)⟩
theorem yf_41a {yma ypo yhe yvm : Int32} {yin : Int64} {yfi yde yap yas yto : Int32} {yan : Int64} {yco yti yna yac yen yic : Int32} {o l kS d : Nat → Int32} {pl ys : Nat → Int64} {yk yn yp yf yo : Nat → Int32} {yi : Nat → Int64} {yw ya y1 y2 : Nat → Int32} {yK : Nat → Int64} {yW : Nat → Int32} {yL : Nat → Int64} {yq nm : Nat → Int32} {nv : Nat → Int64} {no : Nat → Int32} {yA lf rt : Nat → Int64} {iK iN : Nat → Int32} {yma' ypo' yhe' yvm' : Int32} {yin' : Int64} {yfi' yde' yap' yas' yto' : Int32} {yan' : Int64} {yco' yti' yna' yac' yen' yic' : Int32} {o' l' kS' d' : Nat → Int32} {pl' ys' : Nat → Int64} {yk' yn' yp' yf' yo' : Nat → Int32} {yi' : Nat → Int64} {yw' ya' y1' y2' : Nat → Int32} {yK' : Nat → Int64} {yW' : Nat → Int32} {yL' : Nat → Int64} {yq' nm' : Nat → Int32} {nv' : Nat → Int64} {no' : Nat → Int32} {yA' lf' rt' : Nat → Int64} {iK' iN' : Nat → Int32} {post : SY → Prop} {g q : Nat} (hg : g < 600) (eo : yo g = nI q) (hq : q < 40) (ek : yk q = nI 41) (e2 : y2 g = -1) (et : ¬ yto = 0) (eW : ¬ yW g = 1) (hA : ∀ Q : SY → Prop, Q (yma', ypo', yhe', yvm', yin', yfi', yde', yap', yas', yto', yan', yco', yti', yna', yac', yen', yic', o', l', kS', d', pl', ys', yk', yn', yp', yf', yo', yi', yw', ya', y1', y2', yK', yW', yL', yq', nm', nv', no', yA', lf', rt', iK', iN') → wpY_askSecond Q (yma, ypo, yhe, yvm, yin, yfi, yde, yap, yas, yto, yan, yco, yti, yna, yac, yen, yic, o, l, kS, d, pl, ys, yk, yn, yp, yf, yo, yi, yw, ya, y1, y2, yK, yW, yL, yq, nm, nv, no, yA, lf, rt, iK, iN) (nI g) (nI 1) (yi g) (yw g)) (hp : post (yma', ypo', yhe', yvm', yin', yfi', yde', yap', yas', yto', yan', yco', yti', yna', yac', yen', yic', o', l', kS', d', pl', ys', yk', yn', yp', yf', yo', yi', yw', ya', y1', y2', yK', yW', yL', yq', nm', nv', no', yA', lf', rt', iK', iN')) : wpY_goOn post (yma, ypo, yhe, yvm, yin, yfi, yde, yap, yas, yto, yan, yco, yti, yna, yac, yen, yic, o, l, kS, d, pl, ys, yk, yn, yp, yf, yo, yi, yw, ya, y1, y2, yK, yW, yL, yq, nm, nv, no, yA, lf, rt, iK, iN) (nI g) := by
  have eg' : (nI g).toNatClampNeg = g := nI_clamp (by omega)
  have hin : vp_in (nI g) 601 := vp_in_nI (by omega) (by omega)
  have hiq : vp_in (nI q) 40 := vp_in_nI hq (by omega)
  refine yg_pre hg eo hq ek (by omega) (fun w => absurd w (by omega)) (fun e => absurd e (by omega)) (fun _ _ _ => ?_) (fun _ _ w => absurd (by rw [e2]; decide) w)
  unfold wpY_goOnFirst
  dsimp only
  rw [eg', eo, nI_clamp (show q < 2 ^ 31 by omega)]
  refine ⟨hin, nm_e ⟨hin, hiq, nm_e ?_⟩⟩
  refine br_t rfl ?_
  unfold wpY_goOnElse
  dsimp only
  rw [eg']
  exact br_f et ⟨hin, br_f eW ⟨hin, hin, hA _ hp⟩⟩
end
section
/-! ===== Y goes on: the second filter, fold ===== -/
theorem yh_1t {yma ypo yhe yvm : Int32} {yin : Int64} {yfi yde yap yas yto : Int32} {yan : Int64} {yco yti yna yac yen yic : Int32} {o l kS d : Nat → Int32} {pl ys : Nat → Int64} {yk yn yp yf yo : Nat → Int32} {yi : Nat → Int64} {yw ya y1 y2 : Nat → Int32} {yK : Nat → Int64} {yW : Nat → Int32} {yL : Nat → Int64} {yq nm : Nat → Int32} {nv : Nat → Int64} {no : Nat → Int32} {yA lf rt : Nat → Int64} {iK iN : Nat → Int32} {post : SY → Prop} {g q kk f : Nat} (hg : g < 600) (eo : yo g = nI q) (hq : q < 40) (ek : yk q = nI kk) (h30 : 30 ≤ kk) (h50 : kk ≤ 50) (e2 : y2 g = nI f) (hf : f < 600) {a : Nat} (ea : yas = nI (a + 1)) (et : yto = 1) (hk : kk = 31 ∨ kk = 41) (hp : post (yma, ypo, yhe, yvm, yin, yfi, yde, yap, (nI a), 1, 0, yco, yti, yna, yac, yen, yic, o, l, kS, d, pl, ys, yk, yn, yp, yf, yo, yi, yw, ya, y1, y2, yK, yW, yL, yq, nm, nv, no, yA, lf, rt, iK, iN)) : wpY_goOn post (yma, ypo, yhe, yvm, yin, yfi, yde, yap, yas, yto, yan, yco, yti, yna, yac, yen, yic, o, l, kS, d, pl, ys, yk, yn, yp, yf, yo, yi, yw, ya, y1, y2, yK, yW, yL, yq, nm, nv, no, yA, lf, rt, iK, iN) (nI g) := by
  have eg' : (nI g).toNatClampNeg = g := nI_clamp (by omega)
  have hin : vp_in (nI g) 601 := vp_in_nI (by omega) (by omega)
  have hiq : vp_in (nI q) 40 := vp_in_nI hq (by omega)
  refine yg_pre hg eo hq ek (by omega) (fun w => absurd w (by omega)) (fun e => absurd e (by omega)) (fun _ _ w => absurd w (by rw [e2]; exact nI_pos (by omega))) (fun _ _ _ => ?_)
  unfold wpY_goOnSecond
  dsimp only
  rw [eg']
  have k20 : wY_goOnSecond_20 (fun u => match u with | (yma', ypo', yhe', yvm', yin', yfi', yde', yap', yas', yto', yan', yco', yti', yna', yac', yen', yic', o', l', kS', d', pl', ys', yk', yn', yp', yf', yo', yi', yw', ya', y1', y2', yK', yW', yL', yq', nm', nv', no', yA', lf', rt', iK', iN') => post (yma', ypo', yhe', yvm', yin', yfi', yde', yap', yas', yto', yan', yco', yti', yna', yac', yen', yic', o', l', kS', d', pl', ys', yk', yn', yp', yf', yo', yi', yw', ya', y1', y2', yK', yW', yL', yq', nm', nv', no', yA', lf', rt', iK', iN')) yma ypo yhe yvm yin yfi yde yap yas yto yan yco yti yna yac yen yic o l kS d pl ys yk yn yp yf yo yi yw ya y1 y2 yK yW yL yq nm nv no yA lf rt iK iN := by
    unfold wY_goOnSecond_20
    exact yr_tell ea hp
  exact br_t et (pk_eq kk 31 (fun _ => k20) (fun n => br_t (by rw [show kk = 41 by omega]; rfl) k20))
theorem yh_1a {yma ypo yhe yvm : Int32} {yin : Int64} {yfi yde yap yas yto : Int32} {yan : Int64} {yco yti yna yac yen yic : Int32} {o l kS d : Nat → Int32} {pl ys : Nat → Int64} {yk yn yp yf yo : Nat → Int32} {yi : Nat → Int64} {yw ya y1 y2 : Nat → Int32} {yK : Nat → Int64} {yW : Nat → Int32} {yL : Nat → Int64} {yq nm : Nat → Int32} {nv : Nat → Int64} {no : Nat → Int32} {yA lf rt : Nat → Int64} {iK iN : Nat → Int32} {post : SY → Prop} {g q kk f : Nat} (hg : g < 600) (eo : yo g = nI q) (hq : q < 40) (ek : yk q = nI kk) (h30 : 30 ≤ kk) (h50 : kk ≤ 50) (e2 : y2 g = nI f) (hf : f < 600) {a : Nat} (ea : yas = nI (a + 1)) {f1 : Nat} (ha : a < 600) (et : yto = 1) (n31 : kk ≠ 31) (n41 : kk ≠ 41) (e1 : y1 g = nI f1) (hp : post (yma, ypo, yhe, yvm, yin, yfi, yde, yap, (nI (a + 2)), yto, yan, yco, yti, yna, yac, yen, yic, o, l, kS, d, pl, ys, yk, yn, yp, yf, yo, yi, yw, ya, y1, (upd y2 g (-1)), yK, yW, yL, (upd yq (a + 1) (nI f1)), nm, nv, no, yA, lf, rt, iK, iN)) : wpY_goOn post (yma, ypo, yhe, yvm, yin, yfi, yde, yap, yas, yto, yan, yco, yti, yna, yac, yen, yic, o, l, kS, d, pl, ys, yk, yn, yp, yf, yo, yi, yw, ya, y1, y2, yK, yW, yL, yq, nm, nv, no, yA, lf, rt, iK, iN) (nI g) := by
  have eg' : (nI g).toNatClampNeg = g := nI_clamp (by omega)
  have hin : vp_in (nI g) 601 := vp_in_nI (by omega) (by omega)
  have hiq : vp_in (nI q) 40 := vp_in_nI hq (by omega)
  refine yg_pre hg eo hq ek (by omega) (fun w => absurd w (by omega)) (fun e => absurd e (by omega)) (fun _ _ w => absurd w (by rw [e2]; exact nI_pos (by omega))) (fun _ _ _ => ?_)
  unfold wpY_goOnSecond
  dsimp only
  rw [eg']
  rw [e1]
  exact br_t et (br_f (fun z => absurd ((nI_eq (b := 31) (by omega) (by omega)).mp z) (by omega)) (br_f (fun z => absurd ((nI_eq (b := 41) (by omega) (by omega)).mp z) (by omega)) ⟨hin, nm_e ⟨hin, yr_askAgain ea (by omega) hp⟩⟩))
theorem yh_2 {yma ypo yhe yvm : Int32} {yin : Int64} {yfi yde yap yas yto : Int32} {yan : Int64} {yco yti yna yac yen yic : Int32} {o l kS d : Nat → Int32} {pl ys : Nat → Int64} {yk yn yp yf yo : Nat → Int32} {yi : Nat → Int64} {yw ya y1 y2 : Nat → Int32} {yK : Nat → Int64} {yW : Nat → Int32} {yL : Nat → Int64} {yq nm : Nat → Int32} {nv : Nat → Int64} {no : Nat → Int32} {yA lf rt : Nat → Int64} {iK iN : Nat → Int32} {post : SY → Prop} {g q kk f : Nat} (hg : g < 600) (eo : yo g = nI q) (hq : q < 40) (ek : yk q = nI kk) (h30 : 30 ≤ kk) (h50 : kk ≤ 50) (e2 : y2 g = nI f) (hf : f < 600) {a : Nat} (ea : yas = nI (a + 1)) (et : yto = 2) (hp : post (yma, ypo, yhe, yvm, yin, yfi, yde, yap, (nI a), 2, 0, yco, yti, yna, yac, yen, yic, o, l, kS, d, pl, ys, yk, yn, yp, yf, yo, yi, yw, ya, y1, y2, yK, yW, yL, yq, nm, nv, no, yA, lf, rt, iK, iN)) : wpY_goOn post (yma, ypo, yhe, yvm, yin, yfi, yde, yap, yas, yto, yan, yco, yti, yna, yac, yen, yic, o, l, kS, d, pl, ys, yk, yn, yp, yf, yo, yi, yw, ya, y1, y2, yK, yW, yL, yq, nm, nv, no, yA, lf, rt, iK, iN) (nI g) := by
  have eg' : (nI g).toNatClampNeg = g := nI_clamp (by omega)
  have hin : vp_in (nI g) 601 := vp_in_nI (by omega) (by omega)
  have hiq : vp_in (nI q) 40 := vp_in_nI hq (by omega)
  refine yg_pre hg eo hq ek (by omega) (fun w => absurd w (by omega)) (fun e => absurd e (by omega)) (fun _ _ w => absurd w (by rw [e2]; exact nI_pos (by omega))) (fun _ _ _ => ?_)
  unfold wpY_goOnSecond
  dsimp only
  rw [eg']
  exact br_f (by rw [et]; decide) (br_t et (yr_tell ea hp))
theorem yh_0p {yma ypo yhe yvm : Int32} {yin : Int64} {yfi yde yap yas yto : Int32} {yan : Int64} {yco yti yna yac yen yic : Int32} {o l kS d : Nat → Int32} {pl ys : Nat → Int64} {yk yn yp yf yo : Nat → Int32} {yi : Nat → Int64} {yw ya y1 y2 : Nat → Int32} {yK : Nat → Int64} {yW : Nat → Int32} {yL : Nat → Int64} {yq nm : Nat → Int32} {nv : Nat → Int64} {no : Nat → Int32} {yA lf rt : Nat → Int64} {iK iN : Nat → Int32} {post : SY → Prop} {g q kk f : Nat} (hg : g < 600) (eo : yo g = nI q) (hq : q < 40) (ek : yk q = nI kk) (h30 : 30 ≤ kk) (h50 : kk ≤ 50) (e2 : y2 g = nI f) (hf : f < 600) {a : Nat} (ea : yas = nI (a + 1)) (et : yto = 0) (hk : kk < 32 ∨ 40 < kk) (hp : post (yma, ypo, yhe, yvm, yin, yfi, yde, yap, (nI a), 0, yan, yco, yti, yna, yac, yen, yic, o, l, kS, d, pl, ys, yk, yn, yp, yf, yo, yi, yw, ya, y1, y2, yK, yW, yL, yq, nm, nv, no, yA, lf, rt, iK, iN)) : wpY_goOn post (yma, ypo, yhe, yvm, yin, yfi, yde, yap, yas, yto, yan, yco, yti, yna, yac, yen, yic, o, l, kS, d, pl, ys, yk, yn, yp, yf, yo, yi, yw, ya, y1, y2, yK, yW, yL, yq, nm, nv, no, yA, lf, rt, iK, iN) (nI g) := by
  have eg' : (nI g).toNatClampNeg = g := nI_clamp (by omega)
  have hin : vp_in (nI g) 601 := vp_in_nI (by omega) (by omega)
  have hiq : vp_in (nI q) 40 := vp_in_nI hq (by omega)
  refine yg_pre hg eo hq ek (by omega) (fun w => absurd w (by omega)) (fun e => absurd e (by omega)) (fun _ _ w => absurd w (by rw [e2]; exact nI_pos (by omega))) (fun _ _ _ => ?_)
  unfold wpY_goOnSecond
  dsimp only
  rw [eg']
  refine br_f (by rw [et]; decide) (br_f (by rw [et]; decide) (ym_isIn (fun _ => br_t rfl (yr_tell ea hp)) (fun w w' => ?_)))
  rcases hk with z | z
  · exact absurd (nI_lt (b := 32) z (by omega)) w
  · exact absurd (nI_lt (a := 40) z (by omega)) w'
theorem yh_0t {yma ypo yhe yvm : Int32} {yin : Int64} {yfi yde yap yas yto : Int32} {yan : Int64} {yco yti yna yac yen yic : Int32} {o l kS d : Nat → Int32} {pl ys : Nat → Int64} {yk yn yp yf yo : Nat → Int32} {yi : Nat → Int64} {yw ya y1 y2 : Nat → Int32} {yK : Nat → Int64} {yW : Nat → Int32} {yL : Nat → Int64} {yq nm : Nat → Int32} {nv : Nat → Int64} {no : Nat → Int32} {yA lf rt : Nat → Int64} {iK iN : Nat → Int32} {post : SY → Prop} {g q kk f : Nat} (hg : g < 600) (eo : yo g = nI q) (hq : q < 40) (ek : yk q = nI kk) (h30 : 30 ≤ kk) (h50 : kk ≤ 50) (e2 : y2 g = nI f) (hf : f < 600) {c : Nat} (et : yto = 0) (h32 : 32 ≤ kk) (h40 : kk ≤ 40) (ec : yco = nI 600) (hp : post (yma, ypo, yhe, yvm, yin, yfi, yde, yap, yas, yto, yan, yco, 1, yna, yac, yen, yic, o, l, kS, d, pl, ys, yk, yn, yp, yf, yo, yi, yw, ya, y1, y2, yK, yW, yL, yq, nm, nv, no, yA, lf, rt, iK, iN)) : wpY_goOn post (yma, ypo, yhe, yvm, yin, yfi, yde, yap, yas, yto, yan, yco, yti, yna, yac, yen, yic, o, l, kS, d, pl, ys, yk, yn, yp, yf, yo, yi, yw, ya, y1, y2, yK, yW, yL, yq, nm, nv, no, yA, lf, rt, iK, iN) (nI g) := by
  have eg' : (nI g).toNatClampNeg = g := nI_clamp (by omega)
  have hin : vp_in (nI g) 601 := vp_in_nI (by omega) (by omega)
  have hiq : vp_in (nI q) 40 := vp_in_nI hq (by omega)
  refine yg_pre hg eo hq ek (by omega) (fun w => absurd w (by omega)) (fun e => absurd e (by omega)) (fun _ _ w => absurd w (by rw [e2]; exact nI_pos (by omega))) (fun _ _ _ => ?_)
  unfold wpY_goOnSecond
  dsimp only
  rw [eg']
  exact br_f (by rw [et]; decide) (br_f (by rw [et]; decide) (ym_isIn (fun w => absurd w (fun w => w.elim (nI_nlt (b := 32) h32 (by omega)) (nI_nlt (a := 40) h40 (by omega)))) (fun _ _ => br_f (by decide) (yr_tired ec (br_t rfl hp)))))
theorem yh_0b {yma ypo yhe yvm : Int32} {yin : Int64} {yfi yde yap yas yto : Int32} {yan : Int64} {yco yti yna yac yen yic : Int32} {o l kS d : Nat → Int32} {pl ys : Nat → Int64} {yk yn yp yf yo : Nat → Int32} {yi : Nat → Int64} {yw ya y1 y2 : Nat → Int32} {yK : Nat → Int64} {yW : Nat → Int32} {yL : Nat → Int64} {yq nm : Nat → Int32} {nv : Nat → Int64} {no : Nat → Int32} {yA lf rt : Nat → Int64} {iK iN : Nat → Int32} {post : SY → Prop} {g q kk f : Nat} (hg : g < 600) (eo : yo g = nI q) (hq : q < 40) (ek : yk q = nI kk) (h30 : 30 ≤ kk) (h50 : kk ≤ 50) (e2 : y2 g = nI f) (hf : f < 600) {a : Nat} (ea : yas = nI (a + 1)) {c κ : Nat} {x : Int32} (et : yto = 0) (h39 : 39 ≤ kk) (h40 : kk ≤ 40) (ec : yco = nI c) (hc : c < 600) (ew : yan = yy_t κ x) (hκ : κ ≤ 5) (h2 : 2 ≤ κ → post (yma, ypo, yhe, yvm, yin, yfi, yde, yap, (nI a), 0, (yy_t 2 0), (nI (c + 1)), yti, yna, yac, yen, yic, o, l, kS, d, pl, ys, yk, yn, yp, yf, yo, yi, yw, ya, y1, y2, yK, yW, yL, yq, nm, nv, no, yA, lf, rt, iK, iN)) (h1 : κ < 2 → post (yma, ypo, yhe, yvm, yin, yfi, yde, yap, (nI a), 0, (yy_t 1 0), (nI (c + 1)), yti, yna, yac, yen, yic, o, l, kS, d, pl, ys, yk, yn, yp, yf, yo, yi, yw, ya, y1, y2, yK, yW, yL, yq, nm, nv, no, yA, lf, rt, iK, iN)) : wpY_goOn post (yma, ypo, yhe, yvm, yin, yfi, yde, yap, yas, yto, yan, yco, yti, yna, yac, yen, yic, o, l, kS, d, pl, ys, yk, yn, yp, yf, yo, yi, yw, ya, y1, y2, yK, yW, yL, yq, nm, nv, no, yA, lf, rt, iK, iN) (nI g) := by
  have eg' : (nI g).toNatClampNeg = g := nI_clamp (by omega)
  have hin : vp_in (nI g) 601 := vp_in_nI (by omega) (by omega)
  have hiq : vp_in (nI q) 40 := vp_in_nI hq (by omega)
  refine yg_pre hg eo hq ek (by omega) (fun w => absurd w (by omega)) (fun e => absurd e (by omega)) (fun _ _ w => absurd w (by rw [e2]; exact nI_pos (by omega))) (fun _ _ _ => ?_)
  unfold wpY_goOnSecond
  dsimp only
  rw [eg']
  have h32 : 32 ≤ kk := by omega
  refine br_f (by rw [et]; decide) (br_f (by rw [et]; decide) (ym_isIn (fun w => absurd w (fun w => w.elim (nI_nlt (b := 32) h32 (by omega)) (nI_nlt (a := 40) h40 (by omega)))) (fun _ _ => br_f (by decide) (yr_count ec hc ?_))))
  dsimp only
  refine br_f (by decide) (br_f (nI_ge (a := 38) (by omega) (by omega)) ?_)
  rw [ew]
  refine ym_isEmpty (by omega) (fun w => br_t rfl ?_) (fun w => br_f (by decide) ?_)
  · unfold wY_goOnSecond_112
    exact ym_truth (fun z => absurd z (by decide)) (fun _ => yr_tell ea (h2 w))
  · unfold wY_goOnSecond_112
    exact ym_truth (fun _ => yr_tell ea (h1 w)) (fun z => absurd rfl z)
theorem yh_0o {yma ypo yhe yvm : Int32} {yin : Int64} {yfi yde yap yas yto : Int32} {yan : Int64} {yco yti yna yac yen yic : Int32} {o l kS d : Nat → Int32} {pl ys : Nat → Int64} {yk yn yp yf yo : Nat → Int32} {yi : Nat → Int64} {yw ya y1 y2 : Nat → Int32} {yK : Nat → Int64} {yW : Nat → Int32} {yL : Nat → Int64} {yq nm : Nat → Int32} {nv : Nat → Int64} {no : Nat → Int32} {yA lf rt : Nat → Int64} {iK iN : Nat → Int32} {yma' ypo' yhe' yvm' : Int32} {yin' : Int64} {yfi' yde' yap' yas' yto' : Int32} {yan' : Int64} {yco' yti' yna' yac' yen' yic' : Int32} {o' l' kS' d' : Nat → Int32} {pl' ys' : Nat → Int64} {yk' yn' yp' yf' yo' : Nat → Int32} {yi' : Nat → Int64} {yw' ya' y1' y2' : Nat → Int32} {yK' : Nat → Int64} {yW' : Nat → Int32} {yL' : Nat → Int64} {yq' nm' : Nat → Int32} {nv' : Nat → Int64} {no' : Nat → Int32} {yA' lf' rt' : Nat → Int64} {iK' iN' : Nat → Int32} {post : SY → Prop} {g q kk f : Nat} (hg : g < 600) (eo : yo g = nI q) (hq : q < 40) (ek : yk q = nI kk) (h30 : 30 ≤ kk) (h50 : kk ≤ 50) (e2 : y2 g = nI f) (hf : f < 600) {c : Nat} (et : yto = 0) (h32 : 32 ≤ kk) (h38 : kk ≤ 38) (ec : yco = nI c) (hc : c < 600) (hA : ∀ Q : SY → Prop, Q (yma', ypo', yhe', yvm', yin', yfi', yde', yap', yas', yto', yan', yco', yti', yna', yac', yen', yic', o', l', kS', d', pl', ys', yk', yn', yp', yf', yo', yi', yw', ya', y1', y2', yK', yW', yL', yq', nm', nv', no', yA', lf', rt', iK', iN') → wpY_operate Q (yma, ypo, yhe, yvm, yin, yfi, yde, yap, yas, yto, yan, (nI (c + 1)), yti, yna, yac, yen, yic, o, l, kS, d, pl, ys, yk, yn, yp, yf, yo, yi, yw, ya, y1, y2, yK, yW, yL, yq, nm, nv, no, yA, lf, rt, iK, iN) (nI kk) (yK g) yan) (hp : post (yma', ypo', yhe', yvm', yin', yfi', yde', yap', yas', yto', yan', yco', yti', yna', yac', yen', yic', o', l', kS', d', pl', ys', yk', yn', yp', yf', yo', yi', yw', ya', y1', y2', yK', yW', yL', yq', nm', nv', no', yA', lf', rt', iK', iN')) : wpY_goOn post (yma, ypo, yhe, yvm, yin, yfi, yde, yap, yas, yto, yan, yco, yti, yna, yac, yen, yic, o, l, kS, d, pl, ys, yk, yn, yp, yf, yo, yi, yw, ya, y1, y2, yK, yW, yL, yq, nm, nv, no, yA, lf, rt, iK, iN) (nI g) := by
  have eg' : (nI g).toNatClampNeg = g := nI_clamp (by omega)
  have hin : vp_in (nI g) 601 := vp_in_nI (by omega) (by omega)
  have hiq : vp_in (nI q) 40 := vp_in_nI hq (by omega)
  refine yg_pre hg eo hq ek (by omega) (fun w => absurd w (by omega)) (fun e => absurd e (by omega)) (fun _ _ w => absurd w (by rw [e2]; exact nI_pos (by omega))) (fun _ _ _ => ?_)
  unfold wpY_goOnSecond
  dsimp only
  rw [eg']
  have h40 : kk ≤ 40 := by omega
  refine br_f (by rw [et]; decide) (br_f (by rw [et]; decide) (ym_isIn (fun w => absurd w (fun w => w.elim (nI_nlt (b := 32) h32 (by omega)) (nI_nlt (a := 40) h40 (by omega)))) (fun _ _ => br_f (by decide) (yr_count ec hc ?_))))
  dsimp only
  exact br_f (by decide) (br_t (nI_le (b := 38) h38 (by omega)) ⟨hin, hA _ hp⟩)
theorem yo_2 {yma ypo yhe yvm : Int32} {yin : Int64} {yfi yde yap yas yto : Int32} {yan : Int64} {yco yti yna yac yen yic : Int32} {o l kS d : Nat → Int32} {pl ys : Nat → Int64} {yk yn yp yf yo : Nat → Int32} {yi : Nat → Int64} {yw ya y1 y2 : Nat → Int32} {yK : Nat → Int64} {yW : Nat → Int32} {yL : Nat → Int64} {yq nm : Nat → Int32} {nv : Nat → Int64} {no : Nat → Int32} {yA lf rt : Nat → Int64} {iK iN : Nat → Int32} {post : SY → Prop} {g q : Nat} (hg : g < 600) (eo : yo g = nI q) (hq : q < 40) (ek : yk q = nI 51) {a : Nat} (ea : yas = nI (a + 1)) (et : yto = 2) (hp : post (yma, ypo, yhe, yvm, yin, yfi, yde, yap, (nI a), 2, 0, yco, yti, yna, yac, yen, yic, o, l, kS, d, pl, ys, yk, yn, yp, yf, yo, yi, yw, ya, y1, y2, yK, yW, yL, yq, nm, nv, no, yA, lf, rt, iK, iN)) : wpY_goOn post (yma, ypo, yhe, yvm, yin, yfi, yde, yap, yas, yto, yan, yco, yti, yna, yac, yen, yic, o, l, kS, d, pl, ys, yk, yn, yp, yf, yo, yi, yw, ya, y1, y2, yK, yW, yL, yq, nm, nv, no, yA, lf, rt, iK, iN) (nI g) := by
  have eg' : (nI g).toNatClampNeg = g := nI_clamp (by omega)
  have hin : vp_in (nI g) 601 := vp_in_nI (by omega) (by omega)
  have hiq : vp_in (nI q) 40 := vp_in_nI hq (by omega)
  refine yg_pre hg eo hq ek (by omega) (fun w => absurd w (by omega)) (fun _ => ?_) (fun _ w => absurd rfl w) (fun _ w => absurd rfl w)
  unfold wpY_goOnFold
  dsimp only
  rw [eg']
  refine ⟨hin, nm_e ?_⟩
  exact br_t et (yr_tell ea hp)
theorem yo_0b {yma ypo yhe yvm : Int32} {yin : Int64} {yfi yde yap yas yto : Int32} {yan : Int64} {yco yti yna yac yen yic : Int32} {o l kS d : Nat → Int32} {pl ys : Nat → Int64} {yk yn yp yf yo : Nat → Int32} {yi : Nat → Int64} {yw ya y1 y2 : Nat → Int32} {yK : Nat → Int64} {yW : Nat → Int32} {yL : Nat → Int64} {yq nm : Nat → Int32} {nv : Nat → Int64} {no : Nat → Int32} {yA lf rt : Nat → Int64} {iK iN : Nat → Int32} {post : SY → Prop} {g q : Nat} (hg : g < 600) (eo : yo g = nI q) (hq : q < 40) (ek : yk q = nI 51) {a : Nat} (ea : yas = nI (a + 1)) {f : Nat} (ha : a < 600) (et : yto = 0) (eF : ya g = 0) (e2 : y2 g = nI f) (hp : post (yma, ypo, yhe, yvm, yin, yfi, yde, yap, (nI (a + 2)), yto, yan, yco, yti, yna, yac, yen, yic, o, l, kS, d, pl, ys, yk, yn, yp, yf, yo, yi, yw, ya, y1, y2, (vp_updL yK g yan), yW, yL, (upd yq (a + 1) (nI f)), nm, nv, no, yA, lf, rt, iK, iN)) : wpY_goOn post (yma, ypo, yhe, yvm, yin, yfi, yde, yap, yas, yto, yan, yco, yti, yna, yac, yen, yic, o, l, kS, d, pl, ys, yk, yn, yp, yf, yo, yi, yw, ya, y1, y2, yK, yW, yL, yq, nm, nv, no, yA, lf, rt, iK, iN) (nI g) := by
  have eg' : (nI g).toNatClampNeg = g := nI_clamp (by omega)
  have hin : vp_in (nI g) 601 := vp_in_nI (by omega) (by omega)
  have hiq : vp_in (nI q) 40 := vp_in_nI hq (by omega)
  refine yg_pre hg eo hq ek (by omega) (fun w => absurd w (by omega)) (fun _ => ?_) (fun _ w => absurd rfl w) (fun _ w => absurd rfl w)
  unfold wpY_goOnFold
  dsimp only
  rw [eg']
  refine ⟨hin, nm_e ?_⟩
  rw [eF]
  refine br_f (by rw [et]; decide) (br_t et (br_f (by decide) (br_t rfl ?_)))
  unfold wY_goOnFold_58
  rw [eg']
  refine ⟨hin, nm_e (br_f (by decide) ⟨hin, ?_⟩)⟩
  unfold wY_goOnFold_82
  rw [eg', upL_self, e2]
  exact ⟨hin, nm_e ⟨hin, yr_askAgain ea (by omega) hp⟩⟩
theorem yo_0c {yma ypo yhe yvm : Int32} {yin : Int64} {yfi yde yap yas yto : Int32} {yan : Int64} {yco yti yna yac yen yic : Int32} {o l kS d : Nat → Int32} {pl ys : Nat → Int64} {yk yn yp yf yo : Nat → Int32} {yi : Nat → Int64} {yw ya y1 y2 : Nat → Int32} {yK : Nat → Int64} {yW : Nat → Int32} {yL : Nat → Int64} {yq nm : Nat → Int32} {nv : Nat → Int64} {no : Nat → Int32} {yA lf rt : Nat → Int64} {iK iN : Nat → Int32} {post : SY → Prop} {g q : Nat} (hg : g < 600) (eo : yo g = nI q) (hq : q < 40) (ek : yk q = nI 51) {a : Nat} (ea : yas = nI (a + 1)) {f : Nat} (ha : a < 600) (et : yto = 0) (eF : ya g = 2) (e2 : y2 g = nI f) (hp : post (yma, ypo, yhe, yvm, yin, yfi, yde, yap, (nI (a + 2)), yto, yan, yco, yti, yna, yac, yen, yic, o, l, kS, d, pl, ys, yk, yn, yp, yf, yo, yi, yw, ya, y1, y2, yK, yW, (vp_updL yL g yan), (upd yq (a + 1) (nI f)), nm, nv, no, yA, lf, rt, iK, iN)) : wpY_goOn post (yma, ypo, yhe, yvm, yin, yfi, yde, yap, yas, yto, yan, yco, yti, yna, yac, yen, yic, o, l, kS, d, pl, ys, yk, yn, yp, yf, yo, yi, yw, ya, y1, y2, yK, yW, yL, yq, nm, nv, no, yA, lf, rt, iK, iN) (nI g) := by
  have eg' : (nI g).toNatClampNeg = g := nI_clamp (by omega)
  have hin : vp_in (nI g) 601 := vp_in_nI (by omega) (by omega)
  have hiq : vp_in (nI q) 40 := vp_in_nI hq (by omega)
  refine yg_pre hg eo hq ek (by omega) (fun w => absurd w (by omega)) (fun _ => ?_) (fun _ w => absurd rfl w) (fun _ w => absurd rfl w)
  unfold wpY_goOnFold
  dsimp only
  rw [eg']
  refine ⟨hin, nm_e ?_⟩
  rw [eF]
  refine br_f (by rw [et]; decide) (br_t et (br_f (by decide) (br_f (by decide) ⟨hin, ?_⟩)))
  unfold wY_goOnFold_58
  rw [eg', upL_self]
  refine ⟨hin, nm_e (br_t rfl ?_)⟩
  unfold wY_goOnFold_82
  rw [eg', e2]
  exact ⟨hin, nm_e ⟨hin, yr_askAgain ea (by omega) hp⟩⟩
theorem yo_0a {yma ypo yhe yvm : Int32} {yin : Int64} {yfi yde yap yas yto : Int32} {yan : Int64} {yco yti yna yac yen yic : Int32} {o l kS d : Nat → Int32} {pl ys : Nat → Int64} {yk yn yp yf yo : Nat → Int32} {yi : Nat → Int64} {yw ya y1 y2 : Nat → Int32} {yK : Nat → Int64} {yW : Nat → Int32} {yL : Nat → Int64} {yq nm : Nat → Int32} {nv : Nat → Int64} {no : Nat → Int32} {yA lf rt : Nat → Int64} {iK iN : Nat → Int32} {yma' ypo' yhe' yvm' : Int32} {yin' : Int64} {yfi' yde' yap' yas' yto' : Int32} {yan' : Int64} {yco' yti' yna' yac' yen' yic' : Int32} {o' l' kS' d' : Nat → Int32} {pl' ys' : Nat → Int64} {yk' yn' yp' yf' yo' : Nat → Int32} {yi' : Nat → Int64} {yw' ya' y1' y2' : Nat → Int32} {yK' : Nat → Int64} {yW' : Nat → Int32} {yL' : Nat → Int64} {yq' nm' : Nat → Int32} {nv' : Nat → Int64} {no' : Nat → Int32} {yA' lf' rt' : Nat → Int64} {iK' iN' : Nat → Int32} {post : SY → Prop} {g q : Nat} (hg : g < 600) (eo : yo g = nI q) (hq : q < 40) (ek : yk q = nI 51) {nd : Nat} (et : yto = 0) (eF : ya g = 1) (en : yna = nI nd) (hn : nd < 700) (hA : ∀ Q : SY → Prop, Q (yma', ypo', yhe', yvm', yin', yfi', yde', yap', yas', yto', yan', yco', yti', yna', yac', yen', yic', o', l', kS', d', pl', ys', yk', yn', yp', yf', yo', yi', yw', ya', y1', y2', yK', yW', yL', yq', nm', nv', no', yA', lf', rt', iK', iN') → wpY_askSecond Q (yma, ypo, yhe, yvm, yin, yfi, yde, yap, yas, yto, yan, yco, yti, (nI (nd + 1)), yac, yen, yic, o, l, kS, d, pl, ys, yk, yn, yp, yf, yo, yi, yw, (upd ya g 2), y1, y2, yK, yW, (vp_updL yL g 0), yq, (upd nm nd (yn q)), (vp_updL nv nd yan), (upd no nd (yw g)), yA, lf, rt, iK, iN) (nI g) (nI 2) (yK g) (nI nd)) (hp : post (yma', ypo', yhe', yvm', yin', yfi', yde', yap', yas', yto', yan', yco', yti', yna', yac', yen', yic', o', l', kS', d', pl', ys', yk', yn', yp', yf', yo', yi', yw', ya', y1', y2', yK', yW', yL', yq', nm', nv', no', yA', lf', rt', iK', iN')) : wpY_goOn post (yma, ypo, yhe, yvm, yin, yfi, yde, yap, yas, yto, yan, yco, yti, yna, yac, yen, yic, o, l, kS, d, pl, ys, yk, yn, yp, yf, yo, yi, yw, ya, y1, y2, yK, yW, yL, yq, nm, nv, no, yA, lf, rt, iK, iN) (nI g) := by
  have eg' : (nI g).toNatClampNeg = g := nI_clamp (by omega)
  have hin : vp_in (nI g) 601 := vp_in_nI (by omega) (by omega)
  have hiq : vp_in (nI q) 40 := vp_in_nI hq (by omega)
  refine yg_pre hg eo hq ek (by omega) (fun w => absurd w (by omega)) (fun _ => ?_) (fun _ w => absurd rfl w) (fun _ w => absurd rfl w)
  unfold wpY_goOnFold
  dsimp only
  rw [eg']
  refine ⟨hin, nm_e ?_⟩
  rw [eF]
  refine br_f (by rw [et]; decide) (br_t et (br_t rfl ?_))
  unfold wY_goOnFold_96
  rw [eg', eo, nI_clamp (show q < 2 ^ 31 by omega)]
  refine br_t et ⟨hin, hiq, hin, yr_bind en hn ?_⟩
  exact ⟨hin, nm_e ⟨hin, nm_e ⟨hin, hA _ hp⟩⟩⟩
theorem yo_1a {yma ypo yhe yvm : Int32} {yin : Int64} {yfi yde yap yas yto : Int32} {yan : Int64} {yco yti yna yac yen yic : Int32} {o l kS d : Nat → Int32} {pl ys : Nat → Int64} {yk yn yp yf yo : Nat → Int32} {yi : Nat → Int64} {yw ya y1 y2 : Nat → Int32} {yK : Nat → Int64} {yW : Nat → Int32} {yL : Nat → Int64} {yq nm : Nat → Int32} {nv : Nat → Int64} {no : Nat → Int32} {yA lf rt : Nat → Int64} {iK iN : Nat → Int32} {post : SY → Prop} {g q : Nat} (hg : g < 600) (eo : yo g = nI q) (hq : q < 40) (ek : yk q = nI 51) {a : Nat} (ea : yas = nI (a + 1)) (et : yto = 1) (eF : ya g = 1) (hp : post (yma, ypo, yhe, yvm, yin, yfi, yde, yap, (nI a), 0, (yK g), yco, yti, yna, yac, yen, yic, o, l, kS, d, pl, ys, yk, yn, yp, yf, yo, yi, yw, (upd ya g 3), y1, y2, yK, yW, yL, yq, nm, nv, no, yA, lf, rt, iK, iN)) : wpY_goOn post (yma, ypo, yhe, yvm, yin, yfi, yde, yap, yas, yto, yan, yco, yti, yna, yac, yen, yic, o, l, kS, d, pl, ys, yk, yn, yp, yf, yo, yi, yw, ya, y1, y2, yK, yW, yL, yq, nm, nv, no, yA, lf, rt, iK, iN) (nI g) := by
  have eg' : (nI g).toNatClampNeg = g := nI_clamp (by omega)
  have hin : vp_in (nI g) 601 := vp_in_nI (by omega) (by omega)
  have hiq : vp_in (nI q) 40 := vp_in_nI hq (by omega)
  refine yg_pre hg eo hq ek (by omega) (fun w => absurd w (by omega)) (fun _ => ?_) (fun _ w => absurd rfl w) (fun _ w => absurd rfl w)
  unfold wpY_goOnFold
  dsimp only
  rw [eg']
  refine ⟨hin, nm_e ?_⟩
  rw [eF]
  refine br_f (by rw [et]; decide) (br_f (by rw [et]; decide) ?_)
  unfold wY_goOnFold_96
  rw [eg']
  exact br_f (by rw [et]; decide) (br_t rfl ⟨hin, nm_e ⟨hin, yr_tell ea hp⟩⟩)
theorem yo_1c {yma ypo yhe yvm : Int32} {yin : Int64} {yfi yde yap yas yto : Int32} {yan : Int64} {yco yti yna yac yen yic : Int32} {o l kS d : Nat → Int32} {pl ys : Nat → Int64} {yk yn yp yf yo : Nat → Int32} {yi : Nat → Int64} {yw ya y1 y2 : Nat → Int32} {yK : Nat → Int64} {yW : Nat → Int32} {yL : Nat → Int64} {yq nm : Nat → Int32} {nv : Nat → Int64} {no : Nat → Int32} {yA lf rt : Nat → Int64} {iK iN : Nat → Int32} {yma' ypo' yhe' yvm' : Int32} {yin' : Int64} {yfi' yde' yap' yas' yto' : Int32} {yan' : Int64} {yco' yti' yna' yac' yen' yic' : Int32} {o' l' kS' d' : Nat → Int32} {pl' ys' : Nat → Int64} {yk' yn' yp' yf' yo' : Nat → Int32} {yi' : Nat → Int64} {yw' ya' y1' y2' : Nat → Int32} {yK' : Nat → Int64} {yW' : Nat → Int32} {yL' : Nat → Int64} {yq' nm' : Nat → Int32} {nv' : Nat → Int64} {no' : Nat → Int32} {yA' lf' rt' : Nat → Int64} {iK' iN' : Nat → Int32} {post : SY → Prop} {g q : Nat} (hg : g < 600) (eo : yo g = nI q) (hq : q < 40) (ek : yk q = nI 51) (et : yto = 1) (eF : ya g = 2) (hA : ∀ Q : SY → Prop, Q (yma', ypo', yhe', yvm', yin', yfi', yde', yap', yas', yto', yan', yco', yti', yna', yac', yen', yic', o', l', kS', d', pl', ys', yk', yn', yp', yf', yo', yi', yw', ya', y1', y2', yK', yW', yL', yq', nm', nv', no', yA', lf', rt', iK', iN') → wpY_askFirst Q (yma, ypo, yhe, yvm, yin, yfi, yde, yap, yas, yto, yan, yco, yti, yna, yac, yen, yic, o, l, kS, d, pl, ys, yk, yn, yp, yf, yo, yi, yw, (upd ya g 1), y1, y2, (vp_updL yK g (yL g)), yW, yL, yq, nm, nv, no, yA, lf, rt, iK, iN) (nI g)) (hp : post (yma', ypo', yhe', yvm', yin', yfi', yde', yap', yas', yto', yan', yco', yti', yna', yac', yen', yic', o', l', kS', d', pl', ys', yk', yn', yp', yf', yo', yi', yw', ya', y1', y2', yK', yW', yL', yq', nm', nv', no', yA', lf', rt', iK', iN')) : wpY_goOn post (yma, ypo, yhe, yvm, yin, yfi, yde, yap, yas, yto, yan, yco, yti, yna, yac, yen, yic, o, l, kS, d, pl, ys, yk, yn, yp, yf, yo, yi, yw, ya, y1, y2, yK, yW, yL, yq, nm, nv, no, yA, lf, rt, iK, iN) (nI g) := by
  have eg' : (nI g).toNatClampNeg = g := nI_clamp (by omega)
  have hin : vp_in (nI g) 601 := vp_in_nI (by omega) (by omega)
  have hiq : vp_in (nI q) 40 := vp_in_nI hq (by omega)
  refine yg_pre hg eo hq ek (by omega) (fun w => absurd w (by omega)) (fun _ => ?_) (fun _ w => absurd rfl w) (fun _ w => absurd rfl w)
  unfold wpY_goOnFold
  dsimp only
  rw [eg']
  refine ⟨hin, nm_e ?_⟩
  rw [eF]
  refine br_f (by rw [et]; decide) (br_f (by rw [et]; decide) ?_)
  unfold wY_goOnFold_96
  rw [eg']
  refine br_f (by rw [et]; decide) (br_f (by decide) (br_t rfl ⟨hin, ?_⟩))
  unfold wY_goOnFold_210
  rw [eg']
  exact ⟨hin, nm_e ⟨hin, nm_e (hA _ hp)⟩⟩
theorem yo_1b {yma ypo yhe yvm : Int32} {yin : Int64} {yfi yde yap yas yto : Int32} {yan : Int64} {yco yti yna yac yen yic : Int32} {o l kS d : Nat → Int32} {pl ys : Nat → Int64} {yk yn yp yf yo : Nat → Int32} {yi : Nat → Int64} {yw ya y1 y2 : Nat → Int32} {yK : Nat → Int64} {yW : Nat → Int32} {yL : Nat → Int64} {yq nm : Nat → Int32} {nv : Nat → Int64} {no : Nat → Int32} {yA lf rt : Nat → Int64} {iK iN : Nat → Int32} {yma' ypo' yhe' yvm' : Int32} {yin' : Int64} {yfi' yde' yap' yas' yto' : Int32} {yan' : Int64} {yco' yti' yna' yac' yen' yic' : Int32} {o' l' kS' d' : Nat → Int32} {pl' ys' : Nat → Int64} {yk' yn' yp' yf' yo' : Nat → Int32} {yi' : Nat → Int64} {yw' ya' y1' y2' : Nat → Int32} {yK' : Nat → Int64} {yW' : Nat → Int32} {yL' : Nat → Int64} {yq' nm' : Nat → Int32} {nv' : Nat → Int64} {no' : Nat → Int32} {yA' lf' rt' : Nat → Int64} {iK' iN' : Nat → Int32} {post : SY → Prop} {g q : Nat} (hg : g < 600) (eo : yo g = nI q) (hq : q < 40) (ek : yk q = nI 51) (et : yto = 1) (eF : ya g = 0) (hA : ∀ Q : SY → Prop, Q (yma', ypo', yhe', yvm', yin', yfi', yde', yap', yas', yto', yan', yco', yti', yna', yac', yen', yic', o', l', kS', d', pl', ys', yk', yn', yp', yf', yo', yi', yw', ya', y1', y2', yK', yW', yL', yq', nm', nv', no', yA', lf', rt', iK', iN') → wpY_askFirst Q (yma, ypo, yhe, yvm, yin, yfi, yde, yap, yas, yto, yan, yco, yti, yna, yac, yen, yic, o, l, kS, d, pl, ys, yk, yn, yp, yf, yo, yi, yw, (upd ya g 1), y1, y2, yK, yW, yL, yq, nm, nv, no, yA, lf, rt, iK, iN) (nI g)) (hp : post (yma', ypo', yhe', yvm', yin', yfi', yde', yap', yas', yto', yan', yco', yti', yna', yac', yen', yic', o', l', kS', d', pl', ys', yk', yn', yp', yf', yo', yi', yw', ya', y1', y2', yK', yW', yL', yq', nm', nv', no', yA', lf', rt', iK', iN')) : wpY_goOn post (yma, ypo, yhe, yvm, yin, yfi, yde, yap, yas, yto, yan, yco, yti, yna, yac, yen, yic, o, l, kS, d, pl, ys, yk, yn, yp, yf, yo, yi, yw, ya, y1, y2, yK, yW, yL, yq, nm, nv, no, yA, lf, rt, iK, iN) (nI g) := by
  have eg' : (nI g).toNatClampNeg = g := nI_clamp (by omega)
  have hin : vp_in (nI g) 601 := vp_in_nI (by omega) (by omega)
  have hiq : vp_in (nI q) 40 := vp_in_nI hq (by omega)
  refine yg_pre hg eo hq ek (by omega) (fun w => absurd w (by omega)) (fun _ => ?_) (fun _ w => absurd rfl w) (fun _ w => absurd rfl w)
  unfold wpY_goOnFold
  dsimp only
  rw [eg']
  refine ⟨hin, nm_e ?_⟩
  rw [eF]
  refine br_f (by rw [et]; decide) (br_f (by rw [et]; decide) ?_)
  unfold wY_goOnFold_96
  rw [eg']
  refine br_f (by rw [et]; decide) (br_f (by decide) (br_f (by decide) ⟨hin, ?_⟩))
  unfold wY_goOnFold_210
  rw [eg', upL_self]
  exact ⟨hin, nm_e ⟨hin, nm_e (hA _ hp)⟩⟩
end
section
/-! ===== Y: values that are made ===== -/
theorem yk_keys {yma ypo yhe yvm : Int32} {yin : Int64} {yfi yde yap yas yto : Int32} {yan : Int64} {yco yti yna yac yen yic : Int32} {o l kS d : Nat → Int32} {pl ys : Nat → Int64} {yk yn yp yf yo : Nat → Int32} {yi : Nat → Int64} {yw ya y1 y2 : Nat → Int32} {yK : Nat → Int64} {yW : Nat → Int32} {yL : Nat → Int64} {yq nm : Nat → Int32} {nv : Nat → Int64} {no : Nat → Int32} {yA lf rt : Nat → Int64} {iK iN : Nat → Int32} {post : SY → Prop} {κ j z m a pd mk : Nat} {cn ke : Nat → Nat} (hκ : κ = 4 ∨ κ = 5) (hj : j < 760) (el : κ = 4 → l j = nI z) (ek : κ = 5 → kS j = nI m ∧ m < 256) (hz : z ≤ 10) (c0 : cn 0 = 0) (c10 : cn 10 = z)
    (hon : ∀ k, k < 10 → ((κ = 4 → k < z) ∧ (κ = 5 → m / 2 ^ k % 2 = 1) ∧ cn (k + 1) = cn k + 1 ∧ ke (cn k) = k) ∨ ((κ = 4 → z ≤ k) ∧ (κ = 5 → m / 2 ^ k % 2 = 0) ∧ cn (k + 1) = cn k))
    (ea : yas = nI (a + 1)) (ep : ypo = nI pd) (hpd : pd + 10 ≤ 8200) (em : yma = nI mk) (hm : mk < 760)
    (hp : ∀ pl' : Nat → Int64, (∀ i, i < pd → pl' i = pl i) → (∀ i, i < z → pl' (pd + i) = yy_t 3 (nI (ke i))) → post ((nI (mk + 1)), (nI (pd + z)), yhe, yvm, yin, yfi, yde, yap, (nI a), 0, (yy_t 4 (nI mk)), yco, yti, yna, yac, yen, yic, (upd o mk (nI pd)), (upd l mk (nI z)), (upd kS mk 0), (upd d mk (nI 1)), pl', ys, yk, yn, yp, yf, yo, yi, yw, ya, y1, y2, yK, yW, yL, yq, nm, nv, no, yA, lf, rt, iK, iN)) : wpY_tellKeys post (yma, ypo, yhe, yvm, yin, yfi, yde, yap, yas, yto, yan, yco, yti, yna, yac, yen, yic, o, l, kS, d, pl, ys, yk, yn, yp, yf, yo, yi, yw, ya, y1, y2, yK, yW, yL, yq, nm, nv, no, yA, lf, rt, iK, iN) (yy_t κ (nI j)) (nI κ) := by
  have hcn : ∀ k, k ≤ 10 → cn k ≤ k := by
    intro k
    induction k with
    | zero => intro _; omega
    | succ k ih =>
      intro hk
      have := ih (by omega)
      rcases hon k (by omega) with ⟨_, _, w, _⟩ | ⟨_, _, w⟩ <;> omega
  have hmx : vv_mx (fun _ => 0) z = 0 := by
    have := vv_mx_le (f := fun _ => 0) (b := 0) (n := z) (fun _ _ => Nat.le_refl _)
    omega
  have k21 : ∀ r k (pl' : Nat → Int64), k + r = 10 → (∀ i, i < pd → pl' i = pl i) → (∀ i, i < cn k → pl' (pd + i) = yy_t 3 (nI (ke i))) →
      wY_tellKeys_21 post (yy_t κ (nI j)) (nI κ) (nI pd) (nI mk) yhe yvm yin yfi yde yap yas yto yan yco yti yna yac yen yic (r + 1) (nI k) (nI (pd + cn k)) o l kS d pl' ys yk yn yp yf yo yi yw ya y1 y2 yK yW yL yq nm nv no yA lf rt iK iN := by
    intro r
    induction r with
    | zero =>
      intro k pl' hk hlo hhi
      have hk' : k = 10 := by omega
      subst hk'
      rw [c10] at hhi ⊢
      unfold wY_tellKeys_21
      rw [pk_sub (show pd ≤ pd + z by omega), show pd + z - pd = z by omega]
      refine br_t (nI_le (a := 10) (Nat.le_refl _) (by omega)) ?_
      refine ym_compose (κ := 4) (e := fun _ => 0) rfl hm (by omega) hz (by omega) (fun i hi => ?_) ?_
      · rw [hhi i hi]
        exact ⟨by omega, 3, _, by omega, rfl, Or.inl ⟨by omega, rfl⟩⟩
      · rw [hmx]
        exact yr_tell ea (hp pl' hlo hhi)
    | succ r ih =>
      intro k pl' hk hlo hhi
      have hck := hcn k (by omega)
      have off : cn (k + 1) = cn k → wY_tellKeys_72 post (wY_tellKeys_21 post (yy_t κ (nI j)) (nI κ) (nI pd) (nI mk) yhe yvm yin yfi yde yap yas yto yan yco yti yna yac yen yic (r + 1)) (yy_t κ (nI j)) (nI κ) (nI pd) (nI k) 0 (nI mk) (nI (pd + cn k)) yhe yvm yin yfi yde yap yas yto yan yco yti yna yac yen yic o l kS d pl' ys yk yn yp yf yo yi yw ya y1 y2 yK yW yL yq nm nv no yA lf rt iK iN := by
        intro e
        unfold wY_tellKeys_72
        have := ih (k + 1) pl' (by omega) hlo (by rw [e]; exact hhi)
        rw [e] at this
        exact br_t rfl (nm_r (nI_1 k) this)
      have on : cn (k + 1) = cn k + 1 → ke (cn k) = k → wY_tellKeys_72 post (wY_tellKeys_21 post (yy_t κ (nI j)) (nI κ) (nI pd) (nI mk) yhe yvm yin yfi yde yap yas yto yan yco yti yna yac yen yic (r + 1)) (yy_t κ (nI j)) (nI κ) (nI pd) (nI k) 1 (nI mk) (nI (pd + cn k)) yhe yvm yin yfi yde yap yas yto yan yco yti yna yac yen yic o l kS d pl' ys yk yn yp yf yo yi yw ya y1 y2 yK yW yL yq nm nv no yA lf rt iK iN := by
        intro e e'
        unfold wY_tellKeys_72
        rw [nI_clamp (show pd + cn k < 2 ^ 31 by omega)]
        have := ih (k + 1) (vp_updL pl' (pd + cn k) (yy_t 3 (nI k))) (by omega) (fun i hi => (pk_uLn (by omega)).trans (hlo i hi)) (fun i hi => ?_)
        · rw [e, ← Nat.add_assoc] at this
          exact br_f (by decide) (ym_thing (κ := 3) (by omega) ⟨vp_in_nI (by omega) (by omega), nm_e (nm_r (nI_1 _) (nm_r (nI_1 k) this))⟩)
        · by_cases ei : i = cn k
          · subst ei
            rw [pk_uLs, e']
          · rw [pk_uLn (by omega)]
            exact hhi i (by omega)
      unfold wY_tellKeys_21
      refine br_f (nI_ge (b := 10) (by omega) (by omega)) (pk_eq κ 4 (fun e4 => ym_lengthOf hj ?_) (fun n4 => ?_))
      · rw [el e4]
        refine pk_le z k (fun w => ?_) (fun w => ?_)
        · rcases hon k (by omega) with ⟨w1, _⟩ | ⟨_, _, w1⟩
          · have := w1 e4; omega
          · exact off w1
        · rcases hon k (by omega) with ⟨_, _, w1, w2⟩ | ⟨w1, _⟩
          · exact on w1 w2
          · have := w1 e4; omega
      · obtain ⟨m1, m2⟩ := ek (by omega)
        rw [yy_xt, nI_clamp (show j < 2 ^ 31 by omega), m1, kb_bit (by omega) (by omega)]
        refine ⟨vp_in_nI hj (by omega), pk_eq (m / 2 ^ k % 2) 1 (fun w => ?_) (fun w => ?_)⟩
        · rcases hon k (by omega) with ⟨_, _, w1, w2⟩ | ⟨_, w1, _⟩
          · exact on w1 w2
          · have := w1 (by omega); omega
        · rcases hon k (by omega) with ⟨_, w1, _⟩ | ⟨_, _, w1⟩
          · have := w1 (by omega); omega
          · exact off w1
  unfold wpY_tellKeys
  dsimp only
  have := k21 10 0 pl (by omega) (fun _ _ => rfl) (fun i hi => absurd hi (by omega))
  rw [c0, show pd + 0 = pd from rfl, ← em] at this
  rw [← ep] at this
  exact br_t (nI_le (a := 4) (by omega) (by omega)) ⟨_, this⟩
theorem yk_keys2 {yma ypo yhe yvm : Int32} {yin : Int64} {yfi yde yap yas yto : Int32} {yan : Int64} {yco yti yna yac yen yic : Int32} {o l kS d : Nat → Int32} {pl ys : Nat → Int64} {yk yn yp yf yo : Nat → Int32} {yi : Nat → Int64} {yw ya y1 y2 : Nat → Int32} {yK : Nat → Int64} {yW : Nat → Int32} {yL : Nat → Int64} {yq nm : Nat → Int32} {nv : Nat → Int64} {no : Nat → Int32} {yA lf rt : Nat → Int64} {iK iN : Nat → Int32} {post : SY → Prop} {κ a : Nat} {w : Int64} (hκ : κ < 4) (ea : yas = nI (a + 1)) (hp : post (yma, ypo, yhe, yvm, yin, yfi, yde, yap, (nI a), 2, 0, yco, yti, yna, yac, yen, yic, o, l, kS, d, pl, ys, yk, yn, yp, yf, yo, yi, yw, ya, y1, y2, yK, yW, yL, yq, nm, nv, no, yA, lf, rt, iK, iN)) : wpY_tellKeys post (yma, ypo, yhe, yvm, yin, yfi, yde, yap, yas, yto, yan, yco, yti, yna, yac, yen, yic, o, l, kS, d, pl, ys, yk, yn, yp, yf, yo, yi, yw, ya, y1, y2, yK, yW, yL, yq, nm, nv, no, yA, lf, rt, iK, iN) w (nI κ) := by
  unfold wpY_tellKeys
  dsimp only
  exact br_f (nI_ge (b := 4) hκ (by omega)) (yr_tell ea hp)
theorem yk_objects {yma ypo yhe yvm : Int32} {yin : Int64} {yfi yde yap yas yto : Int32} {yan : Int64} {yco yti yna yac yen yic : Int32} {o l kS d : Nat → Int32} {pl ys : Nat → Int64} {yk yn yp yf yo : Nat → Int32} {yi : Nat → Int64} {yw ya y1 y2 : Nat → Int32} {yK : Nat → Int64} {yW : Nat → Int32} {yL : Nat → Int64} {yq nm : Nat → Int32} {nv : Nat → Int64} {no : Nat → Int32} {yA lf rt : Nat → Int64} {iK iN : Nat → Int32} {post : SY → Prop} {j j' ml mr oa ob a pd mk : Nat} {e : Nat → Nat} (hj : j < 760) (hj' : j' < 760) (ek : kS j = nI ml) (ek' : kS j' = nI mr) (hml : ml < 256) (hmr : mr < 256) (eo : o j = nI oa) (eo' : o j' = nI ob) (ho : oa + vv_pc ml 8 ≤ 8200) (ho' : ob + vv_pc mr 8 ≤ 8200) (hopd : oa + vv_pc ml 8 ≤ pd) (hopd' : ob + vv_pc mr 8 ≤ pd)
    (ea : yas = nI (a + 1)) (ep : ypo = nI pd) (hpd : pd + 10 ≤ 8200) (em : yma = nI mk) (hm : mk < 760)
    (hc : ∀ i, i < vv_pc (ml ||| mr) 8 → yd_is d (if mr / 2 ^ ky_k (ml ||| mr) i 8 % 2 = 1 then pl (ob + vv_pc mr (ky_k (ml ||| mr) i 8)) else pl (oa + vv_pc ml (ky_k (ml ||| mr) i 8))) (e i))
    (hp : ∀ pl' : Nat → Int64, (∀ i, i < pd → pl' i = pl i) → (∀ i, i < vv_pc (ml ||| mr) 8 → pl' (pd + i) = if mr / 2 ^ ky_k (ml ||| mr) i 8 % 2 = 1 then pl (ob + vv_pc mr (ky_k (ml ||| mr) i 8)) else pl (oa + vv_pc ml (ky_k (ml ||| mr) i 8))) →
      post ((nI (mk + 1)), (nI (pd + vv_pc (ml ||| mr) 8)), yhe, yvm, yin, yfi, yde, yap, (nI a), 0, (yy_t 5 (nI mk)), yco, yti, yna, yac, yen, yic, (upd o mk (nI pd)), (upd l mk (nI (vv_pc (ml ||| mr) 8))), (upd kS mk (nI (ml ||| mr))), (upd d mk (nI (vv_mx e (vv_pc (ml ||| mr) 8) + 1))), pl', ys, yk, yn, yp, yf, yo, yi, yw, ya, y1, y2, yK, yW, yL, yq, nm, nv, no, yA, lf, rt, iK, iN)) : wpY_tellObjects post (yma, ypo, yhe, yvm, yin, yfi, yde, yap, yas, yto, yan, yco, yti, yna, yac, yen, yic, o, l, kS, d, pl, ys, yk, yn, yp, yf, yo, yi, yw, ya, y1, y2, yK, yW, yL, yq, nm, nv, no, yA, lf, rt, iK, iN) (yy_t 5 (nI j)) (yy_t 5 (nI j')) := by
  have hor := or_lt hml hmr
  have h8 := vv_pc_8' (m := ml ||| mr)
  have k27 : ∀ r k (pl' : Nat → Int64), k + r = 8 → (∀ i, i < pd → pl' i = pl i) → (∀ i, i < vv_pc (ml ||| mr) k → pl' (pd + i) = if mr / 2 ^ ky_k (ml ||| mr) i 8 % 2 = 1 then pl (ob + vv_pc mr (ky_k (ml ||| mr) i 8)) else pl (oa + vv_pc ml (ky_k (ml ||| mr) i 8))) →
      wY_tellObjects_27 post (yy_t 5 (nI j)) (yy_t 5 (nI j')) (nI ml) (nI mr) (nI pd) (nI mk) yhe yvm yin yfi yde yap yas yto yan yco yti yna yac yen yic (r + 1) (nI k) (nI (pd + vv_pc (ml ||| mr) k)) o l kS d pl' ys yk yn yp yf yo yi yw ya y1 y2 yK yW yL yq nm nv no yA lf rt iK iN := by
    intro r
    induction r with
    | zero =>
      intro k pl' hk hlo hhi
      have hk' : k = 8 := by omega
      subst hk'
      unfold wY_tellObjects_27
      rw [pk_sub (show pd ≤ pd + vv_pc (ml ||| mr) 8 by omega), show pd + vv_pc (ml ||| mr) 8 - pd = vv_pc (ml ||| mr) 8 by omega, nx_or]
      refine br_t (nI_le (a := 8) (Nat.le_refl _) (by omega)) ?_
      refine ym_compose (κ := 5) (e := e) rfl hm (by omega) (by omega) (by omega) (fun i hi => ?_) (yr_tell ea (hp pl' hlo hhi))
      rw [hhi i hi]
      exact hc i hi
    | succ r ih =>
      intro k pl' hk hlo hhi
      have ul := vv_pc_u (m := ml) (a := k + 1) (b := 8) (by omega)
      have ur := vv_pc_u (m := mr) (a := k + 1) (b := 8) (by omega)
      have uo := vv_pc_u (m := ml ||| mr) (a := k + 1) (b := 8) (by omega)
      have sl := vv_pc_s ml k
      have sr := vv_pc_s mr k
      have so := vv_pc_s (ml ||| mr) k
      have ob' := or_bit ml mr k
      have k84 : (ml ||| mr) / 2 ^ k % 2 = 1 → ∀ w : Int64, w = (if mr / 2 ^ k % 2 = 1 then pl (ob + vv_pc mr k) else pl (oa + vv_pc ml k)) → wY_tellObjects_84 post (wY_tellObjects_27 post (yy_t 5 (nI j)) (yy_t 5 (nI j')) (nI ml) (nI mr) (nI pd) (nI mk) yhe yvm yin yfi yde yap yas yto yan yco yti yna yac yen yic (r + 1)) (yy_t 5 (nI j)) (yy_t 5 (nI j')) (nI ml) (nI mr) (nI pd) (nI k) w (nI (pd + vv_pc (ml ||| mr) k)) (nI mk) (nI (pd + vv_pc (ml ||| mr) k)) yhe yvm yin yfi yde yap yas yto yan yco yti yna yac yen yic o l kS d pl' ys yk yn yp yf yo yi yw ya y1 y2 yK yW yL yq nm nv no yA lf rt iK iN := by
        intro hb w hw
        have hky := ky_u hor (show k < 8 by omega) hb rfl
        unfold wY_tellObjects_84
        rw [nI_clamp (show pd + vv_pc (ml ||| mr) k < 2 ^ 31 by omega)]
        have := ih (k + 1) (vp_updL pl' (pd + vv_pc (ml ||| mr) k) w) (by omega) (fun i hi => (pk_uLn (by omega)).trans (hlo i hi)) (fun i hi => ?_)
        · rw [so, hb, ← Nat.add_assoc] at this
          exact ⟨vp_in_nI (by omega) (by omega), nm_e (nm_r (nI_1 _) (nm_r (nI_1 k) this))⟩
        · by_cases ei : i = vv_pc (ml ||| mr) k
          · subst ei
            rw [pk_uLs, hky]
            exact hw
          · rw [pk_uLn (by omega)]
            exact hhi i (by omega)
      unfold wY_tellObjects_27
      rw [nx_or, kb_bit (show ml ||| mr < 2 ^ 31 by omega) (show k < 32 by omega), kb_bit (show mr < 2 ^ 31 by omega) (show k < 32 by omega)]
      refine br_f (nI_ge (b := 8) (by omega) (by omega)) (pk_eq ((ml ||| mr) / 2 ^ k % 2) 1 (fun hb => pk_eq (mr / 2 ^ k % 2) 1 (fun e1 => ?_) (fun n1 => ?_)) (fun hb => ?_))
      · refine yl_fieldOf hj' ek' hmr (by omega) eo' (by omega) (fun _ => ⟨by omega, k84 hb _ ?_⟩) (fun z => absurd z (by omega))
        rw [if_pos e1]
        exact hlo _ (by omega)
      · have e2 : ml / 2 ^ k % 2 = 1 := by
          by_cases z : ml / 2 ^ k % 2 = 1
          · exact z
          · rw [ob', if_neg (by omega)] at hb
            omega
        refine yl_fieldOf hj ek hml (by omega) eo (by omega) (fun _ => ⟨by omega, k84 hb _ ?_⟩) (fun z => absurd z (by omega))
        rw [if_neg n1]
        exact hlo _ (by omega)
      · have h0 : (ml ||| mr) / 2 ^ k % 2 = 0 := by omega
        have := ih (k + 1) pl' (by omega) hlo (by rw [so, h0]; exact hhi)
        rw [so, h0, Nat.add_zero] at this
        exact nm_r (nI_1 k) this
  unfold wpY_tellObjects
  dsimp only
  rw [yy_xt, yy_xt, nI_clamp (show j < 2 ^ 31 by omega), nI_clamp (show j' < 2 ^ 31 by omega), ek, ek']
  have := k27 8 0 pl (by omega) (fun _ _ => rfl) (fun i hi => absurd hi (by show ¬ i < 0; omega))
  rw [show pd + vv_pc (ml ||| mr) 0 = pd from rfl, ← em] at this
  rw [← ep] at this
  exact ⟨vp_in_nI hj (by omega), nm_e ⟨vp_in_nI hj' (by omega), nm_e ⟨_, this⟩⟩⟩
end
section
theorem yk_among {yma ypo yhe yvm : Int32} {yin : Int64} {yfi yde yap yas yto : Int32} {yan : Int64} {yco yti yna yac yen yic : Int32} {o l kS d : Nat → Int32} {pl ys : Nat → Int64} {yk yn yp yf yo : Nat → Int32} {yi : Nat → Int64} {yw ya y1 y2 : Nat → Int32} {yK : Nat → Int64} {yW : Nat → Int32} {yL : Nat → Int64} {yq nm : Nat → Int32} {nv : Nat → Int64} {no : Nat → Int32} {yA lf rt : Nat → Int64} {iK iN : Nat → Int32} {V : Nat → Prop} {K N Z D Im W P : Nat → Int32} {post : Int32 → SY → Prop} {mk pd s κ j oa lb : Nat} {v : Int64} {tc : Nat → Nat} (hx : vv_ox V K N Z D Im W P) (hy : vv_cy mk pd o l pl) (hs : s < 653) (hR : vv_R V K N Z D P mk o l kS d pl (nI s) v) (hj : j < 760) (eo : o j = nI oa) (el : l j = nI lb) (hlb : lb ≤ 10) (ho : oa + lb ≤ 8200)
    (hc : ∀ i, i < lb → tc i < 653 ∧ vv_R V K N Z D P mk o l kS d pl (nI (tc i)) (pl (oa + i)))
    (h1 : (∃ i, i < lb ∧ oo_c (oo_h K N) Z P 4 s (tc i) = 0) → ∀ lf' rt' : Nat → Int64, post 1 (yma, ypo, yhe, yvm, yin, yfi, yde, yap, yas, yto, yan, yco, yti, yna, yac, yen, yic, o, l, kS, d, pl, ys, yk, yn, yp, yf, yo, yi, yw, ya, y1, y2, yK, yW, yL, yq, nm, nv, no, yA, lf', rt', iK, iN)) (h0 : (∀ i, i < lb → ¬ oo_c (oo_h K N) Z P 4 s (tc i) = 0) → ∀ lf' rt' : Nat → Int64, post 0 (yma, ypo, yhe, yvm, yin, yfi, yde, yap, yas, yto, yan, yco, yti, yna, yac, yen, yic, o, l, kS, d, pl, ys, yk, yn, yp, yf, yo, yi, yw, ya, y1, y2, yK, yW, yL, yq, nm, nv, no, yA, lf', rt', iK, iN)) : wpY_isAmong post (yma, ypo, yhe, yvm, yin, yfi, yde, yap, yas, yto, yan, yco, yti, yna, yac, yen, yic, o, l, kS, d, pl, ys, yk, yn, yp, yf, yo, yi, yw, ya, y1, y2, yK, yW, yL, yq, nm, nv, no, yA, lf, rt, iK, iN) v (yy_t κ (nI j)) := by
  have key : ∀ r i (lf rt : Nat → Int64), i + r = lb → (∀ i', i' < i → ¬ oo_c (oo_h K N) Z P 4 s (tc i') = 0) → wY_isAmong_3 post v (yy_t κ (nI j)) (r + 1) (nI i) yma ypo yhe yvm yin yfi yde yap yas yto yan yco yti yna yac yen yic o l kS d pl ys yk yn yp yf yo yi yw ya y1 y2 yK yW yL yq nm nv no yA lf rt iK iN := by
    intro r
    induction r with
    | zero =>
      intro i lf rt hi hno
      unfold wY_isAmong_3
      refine ym_lengthOf hj ?_
      rw [el]
      exact br_t (nI_le (by omega) (by omega)) (h0 (fun i' hi' => hno i' (by omega)) lf rt)
    | succ r ih =>
      intro i lf rt hi hno
      obtain ⟨c1, c2⟩ := hc i (by omega)
      unfold wY_isAmong_3
      refine ym_lengthOf hj ?_
      rw [el]
      refine br_f (nI_ge (by omega) (by omega)) (ym_place hj eo (by omega) (ym_compare hx hy hs c1 hR c2 (fun lf' rt' => ?_)))
      refine br_c (fun z => h1 ⟨i, by omega, z⟩ lf' rt') (fun z => nm_r (nI_1 i) (ih (i + 1) lf' rt' (by omega) (fun i' hi' => ?_)))
      by_cases e : i' = i
      · subst e; exact z
      · exact hno i' (by omega)
  unfold wpY_isAmong
  dsimp only
  exact ⟨_, key lb 0 lf rt (by omega) (fun i hi => absurd hi (by omega))⟩
theorem yk_join {yma ypo yhe yvm : Int32} {yin : Int64} {yfi yde yap yas yto : Int32} {yan : Int64} {yco yti yna yac yen yic : Int32} {o l kS d : Nat → Int32} {pl ys : Nat → Int64} {yk yn yp yf yo : Nat → Int32} {yi : Nat → Int64} {yw ya y1 y2 : Nat → Int32} {yK : Nat → Int64} {yW : Nat → Int32} {yL : Nat → Int64} {yq nm : Nat → Int32} {nv : Nat → Int64} {no : Nat → Int32} {yA lf rt : Nat → Int64} {iK iN : Nat → Int32} {post : SY → Prop} {j j' oa la ob lb a pd mk : Nat} {e : Nat → Nat} (hj : j < 760) (hj' : j' < 760) (eo : o j = nI oa) (el : l j = nI la) (eo' : o j' = nI ob) (el' : l j' = nI lb) (hla : la ≤ 10) (hlb : lb ≤ 10) (ho : oa + la ≤ pd) (ho' : ob + lb ≤ pd)
    (ea : yas = nI (a + 1)) (ep : ypo = nI pd) (hpd : pd + 10 ≤ 8200) (em : yma = nI mk) (hm : mk < 760)
    (hc : la + lb ≤ 10 → ∀ i, i < la + lb → yd_is d (if i < la then pl (oa + i) else pl (ob + (i - la))) (e i))
    (h2 : 10 < la + lb → post (yma, ypo, yhe, yvm, yin, yfi, yde, yap, (nI a), 2, 0, yco, yti, yna, yac, yen, yic, o, l, kS, d, pl, ys, yk, yn, yp, yf, yo, yi, yw, ya, y1, y2, yK, yW, yL, yq, nm, nv, no, yA, lf, rt, iK, iN))
    (hp : la + lb ≤ 10 → ∀ pl' : Nat → Int64, (∀ i, i < pd → pl' i = pl i) → (∀ i, i < la + lb → pl' (pd + i) = if i < la then pl (oa + i) else pl (ob + (i - la))) →
      post ((nI (mk + 1)), (nI (pd + (la + lb))), yhe, yvm, yin, yfi, yde, yap, (nI a), 0, (yy_t 4 (nI mk)), yco, yti, yna, yac, yen, yic, (upd o mk (nI pd)), (upd l mk (nI (la + lb))), (upd kS mk 0), (upd d mk (nI (vv_mx e (la + lb) + 1))), pl', ys, yk, yn, yp, yf, yo, yi, yw, ya, y1, y2, yK, yW, yL, yq, nm, nv, no, yA, lf, rt, iK, iN)) : wpY_tellArrays post (yma, ypo, yhe, yvm, yin, yfi, yde, yap, yas, yto, yan, yco, yti, yna, yac, yen, yic, o, l, kS, d, pl, ys, yk, yn, yp, yf, yo, yi, yw, ya, y1, y2, yK, yW, yL, yq, nm, nv, no, yA, lf, rt, iK, iN) (nI 32) (yy_t 4 (nI j)) (yy_t 4 (nI j')) := by
  unfold wpY_tellArrays
  dsimp only
  refine ym_lengthOf hj (br_t rfl (ym_lengthOf hj' ?_))
  rw [el, el']
  unfold wY_tellArrays_21
  rw [nI_add]
  refine nm_e (pk_le (la + lb) 10 (fun hle => ?_) (fun hgt => yr_tell ea (h2 hgt)))
  have k47 : ∀ r i (pl' : Nat → Int64), i + r = la + lb → (∀ k, k < pd → pl' k = pl k) → (∀ k, k < i → pl' (pd + k) = if k < la then pl (oa + k) else pl (ob + (k - la))) →
      wY_tellArrays_47 post (nI 32) (yy_t 4 (nI j)) (yy_t 4 (nI j')) (nI (la + lb)) (nI pd) (r + 1) (nI i) yma (nI (pd + i)) yhe yvm yin yfi yde yap yas yto yan yco yti yna yac yen yic o l kS d pl' ys yk yn yp yf yo yi yw ya y1 y2 yK yW yL yq nm nv no yA lf rt iK iN := by
    intro r
    induction r with
    | zero =>
      intro i pl' hi hlo hhi
      have hi' : i = la + lb := by omega
      subst hi'
      unfold wY_tellArrays_47
      rw [pk_sub (show pd ≤ pd + (la + lb) by omega), show pd + (la + lb) - pd = la + lb by omega]
      refine br_t (nI_le (Nat.le_refl _) (by omega)) (ym_compose (κ := 4) (e := e) em hm (by omega) hle (by omega) (fun k hk => ?_) (yr_tell ea (hp hle pl' hlo hhi)))
      rw [hhi k hk]
      exact hc hle k hk
    | succ r ih =>
      intro i pl' hi hlo hhi
      have k88 : ∀ w : Int64, w = (if i < la then pl (oa + i) else pl (ob + (i - la))) → wY_tellArrays_88 post (wY_tellArrays_47 post (nI 32) (yy_t 4 (nI j)) (yy_t 4 (nI j')) (nI (la + lb)) (nI pd) (r + 1)) (nI 32) (yy_t 4 (nI j)) (yy_t 4 (nI j')) (nI (la + lb)) (nI pd) (nI i) w yma (nI (pd + i)) yhe yvm yin yfi yde yap yas yto yan yco yti yna yac yen yic o l kS d pl' ys yk yn yp yf yo yi yw ya y1 y2 yK yW yL yq nm nv no yA lf rt iK iN := by
        intro w hw
        unfold wY_tellArrays_88
        refine br_t rfl ?_
        unfold wY_tellArrays_107
        rw [nI_clamp (show pd + i < 2 ^ 31 by omega)]
        refine ⟨vp_in_nI (by omega) (by omega), nm_e (nm_r (nI_1 _) (nm_r (nI_1 i) ?_))⟩
        refine ih (i + 1) (vp_updL pl' (pd + i) w) (by omega) (fun k hk => (pk_uLn (by omega)).trans (hlo k hk)) (fun k hk => ?_)
        by_cases ek : k = i
        · subst ek; rw [pk_uLs]; exact hw
        · rw [pk_uLn (by omega)]; exact hhi k (by omega)
      unfold wY_tellArrays_47
      refine br_f (nI_ge (by omega) (by omega)) (ym_lengthOf hj ?_)
      rw [el]
      refine pk_le la i (fun w => ym_lengthOf hj ?_) (fun w => ym_place hj eo (by omega) (k88 _ ?_))
      · rw [el, pk_sub w]
        refine ym_place hj' eo' (by omega) (k88 _ ?_)
        rw [if_neg (by omega)]
        exact hlo _ (by omega)
      · rw [if_pos w]
        exact hlo _ (by omega)
  have := k47 (la + lb) 0 pl (by omega) (fun _ _ => rfl) (fun i hi => absurd hi (by omega))
  rw [show pd + 0 = pd from rfl, ← ep] at this
  exact ⟨_, this⟩
theorem yk_minus {yma ypo yhe yvm : Int32} {yin : Int64} {yfi yde yap yas yto : Int32} {yan : Int64} {yco yti yna yac yen yic : Int32} {o l kS d : Nat → Int32} {pl ys : Nat → Int64} {yk yn yp yf yo : Nat → Int32} {yi : Nat → Int64} {yw ya y1 y2 : Nat → Int32} {yK : Nat → Int64} {yW : Nat → Int32} {yL : Nat → Int64} {yq nm : Nat → Int32} {nv : Nat → Int64} {no : Nat → Int32} {yA lf rt : Nat → Int64} {iK iN : Nat → Int32} {V : Nat → Prop} {K N Z D Im W P : Nat → Int32} {post : SY → Prop} {j j' oa la ob lb a pd mk : Nat} {e sc tc : Nat → Nat} {fb : Nat → Bool} (hx : vv_ox V K N Z D Im W P) (hy : vv_cy mk pd o l pl) (hj : j < 760) (hj' : j' < 760) (eo : o j = nI oa) (el : l j = nI la) (eo' : o j' = nI ob) (el' : l j' = nI lb) (hla : la ≤ 10) (hlb : lb ≤ 10) (ho : oa + la ≤ pd) (ho' : ob + lb ≤ pd)
    (ea : yas = nI (a + 1)) (ep : ypo = nI pd) (hpd : pd + 10 ≤ 8200) (em : yma = nI mk) (hm : mk < 760)
    (hs : ∀ i, i < la → sc i < 653 ∧ vv_R V K N Z D P mk o l kS d pl (nI (sc i)) (pl (oa + i))) (ht : ∀ i, i < lb → tc i < 653 ∧ vv_R V K N Z D P mk o l kS d pl (nI (tc i)) (pl (ob + i)))
    (hf : ∀ i, i < la → (fb i = true → ∃ k, k < lb ∧ oo_c (oo_h K N) Z P 4 (sc i) (tc k) = 0) ∧ (fb i = false → ∀ k, k < lb → ¬ oo_c (oo_h K N) Z P 4 (sc i) (tc k) = 0))
    (hc : ∀ i, i < wo_n fb la → yd_is d (pl (oa + wo_k fb i la)) (e i))
    (hp : ∀ pl' lf' rt' : Nat → Int64, (∀ i, i < pd → pl' i = pl i) → (∀ i, i < wo_n fb la → pl' (pd + i) = pl (oa + wo_k fb i la)) →
      post ((nI (mk + 1)), (nI (pd + wo_n fb la)), yhe, yvm, yin, yfi, yde, yap, (nI a), 0, (yy_t 4 (nI mk)), yco, yti, yna, yac, yen, yic, (upd o mk (nI pd)), (upd l mk (nI (wo_n fb la))), (upd kS mk 0), (upd d mk (nI (vv_mx e (wo_n fb la) + 1))), pl', ys, yk, yn, yp, yf, yo, yi, yw, ya, y1, y2, yK, yW, yL, yq, nm, nv, no, yA, lf', rt', iK, iN)) : wpY_tellArrays post (yma, ypo, yhe, yvm, yin, yfi, yde, yap, yas, yto, yan, yco, yti, yna, yac, yen, yic, o, l, kS, d, pl, ys, yk, yn, yp, yf, yo, yi, yw, ya, y1, y2, yK, yW, yL, yq, nm, nv, no, yA, lf, rt, iK, iN) (nI 33) (yy_t 4 (nI j)) (yy_t 4 (nI j')) := by
  have hwl := wo_le (fb := fb) la
  unfold wpY_tellArrays
  dsimp only
  refine ym_lengthOf hj (br_f (by decide) ?_)
  rw [el]
  unfold wY_tellArrays_21
  refine nm_r (show nI la + 0 = nI la from nI_add la 0) (br_t (nI_le (b := 10) hla (by omega)) ?_)
  have k47 : ∀ r i (pl' lf rt : Nat → Int64), i + r = la → (∀ k, k < pd → pl' k = pl k) → (∀ k, k < wo_n fb i → pl' (pd + k) = pl (oa + wo_k fb k la)) →
      wY_tellArrays_47 post (nI 33) (yy_t 4 (nI j)) (yy_t 4 (nI j')) (nI la) (nI pd) (r + 1) (nI i) yma (nI (pd + wo_n fb i)) yhe yvm yin yfi yde yap yas yto yan yco yti yna yac yen yic o l kS d pl' ys yk yn yp yf yo yi yw ya y1 y2 yK yW yL yq nm nv no yA lf rt iK iN := by
    intro r
    induction r with
    | zero =>
      intro i pl' lf rt hi hlo hhi
      have hi' : i = la := by omega
      subst hi'
      unfold wY_tellArrays_47
      rw [pk_sub (show pd ≤ pd + wo_n fb i by omega), show pd + wo_n fb i - pd = wo_n fb i by omega]
      refine br_t (nI_le (Nat.le_refl _) (by omega)) (ym_compose (κ := 4) (e := e) em hm (by omega) (by omega) (by omega) (fun k hk => ?_) (yr_tell ea (hp pl' lf rt hlo hhi)))
      rw [hhi k hk]
      exact hc k hk
    | succ r ih =>
      intro i pl' lf rt hi hlo hhi
      obtain ⟨s1, s2⟩ := hs i (by omega)
      obtain ⟨f1, f2⟩ := hf i (by omega)
      have hu := wo_u (fb := fb) (a := i + 1) (b := la) (by omega)
      have hsn := wo_s fb i
      have hyk : ∀ {s : Int32} {w : Int64}, vv_R V K N Z D P mk o l kS d pl s w → vv_R V K N Z D P mk o l kS d pl' s w := fun hR => vv_R_up hx hy (fun u hu => ⟨hu, rfl, rfl, rfl, rfl, fun _ _ => rfl⟩) (Nat.le_refl _) (fun j _ => ⟨rfl, rfl, rfl, rfl, fun a b _ _ _ hab i hi => hlo _ (by omega)⟩) hR
      have hy' : vv_cy mk pd o l pl' := by
        obtain ⟨y1', y2', y3'⟩ := hy
        refine ⟨y1', y2', fun q hq => ?_⟩
        obtain ⟨x1, x2, x3, x4, x5, x6, x7⟩ := y3' q hq
        exact ⟨x1, x2, x3, x4, x5, x6, fun k hk => by rw [hlo _ (by omega)]; exact x7 k hk⟩
      unfold wY_tellArrays_47
      refine br_f (nI_ge (by omega) (by omega)) (ym_lengthOf hj ?_)
      rw [el]
      refine br_f (nI_ge (by omega) (by omega)) (ym_place hj eo (by omega) ?_)
      unfold wY_tellArrays_88
      refine br_f (by decide) ?_
      rw [hlo _ (show oa + i < pd by omega)]
      refine yk_among (tc := tc) hx hy' s1 (hyk s2) hj' eo' el' hlb (by omega) (fun k hk => ⟨(ht k hk).1, by rw [hlo _ (by omega)]; exact hyk (ht k hk).2⟩) (fun hex lf' rt' => br_f (by decide) (nm_r (nI_1 i) ?_)) (fun hno lf' rt' => br_t rfl ?_)
      · have hb : fb i = true := by
          cases hb : fb i with
          | true => rfl
          | false =>
            obtain ⟨k, k1, k2⟩ := hex
            exact absurd k2 (f2 hb k k1)
        rw [hb, if_pos rfl, Nat.add_zero] at hsn
        have := ih (i + 1) pl' lf' rt' (by omega) hlo (by rw [hsn]; exact hhi)
        rw [hsn] at this
        exact this
      · have hb : fb i = false := by
          cases hb : fb i with
          | false => rfl
          | true =>
            obtain ⟨k, k1, k2⟩ := f1 hb
            exact absurd k2 (hno k k1)
        rw [hb, if_neg (by decide)] at hsn
        unfold wY_tellArrays_107
        rw [nI_clamp (show pd + wo_n fb i < 2 ^ 31 by omega)]
        have := ih (i + 1) (vp_updL pl' (pd + wo_n fb i) (pl (oa + i))) lf' rt' (by omega) (fun k hk => (pk_uLn (by omega)).trans (hlo k hk)) (fun k hk => ?_)
        · rw [hsn, ← Nat.add_assoc] at this
          exact ⟨vp_in_nI (by omega) (by omega), nm_e (nm_r (nI_1 _) (nm_r (nI_1 i) this))⟩
        · by_cases ek : k = wo_n fb i
          · subst ek
            rw [pk_uLs, wo_ku hb rfl la (by omega)]
          · rw [pk_uLn (by omega)]; exact hhi k (by omega)
  have := k47 la 0 pl lf rt (by omega) (fun _ _ => rfl) (fun i hi => absurd hi (by show ¬ i < 0; omega))
  rw [show pd + wo_n fb 0 = pd from rfl, ← ep] at this
  exact ⟨_, this⟩
end
section
/-! ===== Y operates ===== -/
theorem yp_pre {yma ypo yhe yvm : Int32} {yin : Int64} {yfi yde yap yas yto : Int32} {yan : Int64} {yco yti yna yac yen yic : Int32} {o l kS d : Nat → Int32} {pl ys : Nat → Int64} {yk yn yp yf yo : Nat → Int32} {yi : Nat → Int64} {yw ya y1 y2 : Nat → Int32} {yK : Nat → Int64} {yW : Nat → Int32} {yL : Nat → Int64} {yq nm : Nat → Int32} {nv : Nat → Int64} {no : Nat → Int32} {yA lf rt : Nat → Int64} {iK iN : Nat → Int32} {post : SY → Prop} {kk κ κ' : Nat} {x x' : Int32} (hκ : κ ≤ 5) (hκ' : κ' ≤ 5) (h1 : κ = 3 ∧ κ' = 3 → wY_operate_41 post (nI kk) (yy_t κ x) (yy_t κ' x') (nI κ) (nI κ') x x' 1 yma ypo yhe yvm yin yfi yde yap yas yto yan yco yti yna yac yen yic o l kS d pl ys yk yn yp yf yo yi yw ya y1 y2 yK yW yL yq nm nv no yA lf rt iK iN) (h0 : ¬ (κ = 3 ∧ κ' = 3) → wY_operate_41 post (nI kk) (yy_t κ x) (yy_t κ' x') (nI κ) (nI κ') x x' 0 yma ypo yhe yvm yin yfi yde yap yas yto yan yco yti yna yac yen yic o l kS d pl ys yk yn yp yf yo yi yw ya y1 y2 yK yW yL yq nm nv no yA lf rt iK iN) : wpY_operate post (yma, ypo, yhe, yvm, yin, yfi, yde, yap, yas, yto, yan, yco, yti, yna, yac, yen, yic, o, l, kS, d, pl, ys, yk, yn, yp, yf, yo, yi, yw, ya, y1, y2, yK, yW, yL, yq, nm, nv, no, yA, lf, rt, iK, iN) (nI kk) (yy_t κ x) (yy_t κ' x') := by
  unfold wpY_operate
  dsimp only
  refine ym_sort (by omega) (ym_sort (by omega) ?_)
  rw [yy_xt, yy_xt]
  refine pk_eq κ 3 (fun e => pk_eq κ' 3 (fun e' => h1 ⟨e, e'⟩) (fun n' => ?_)) (fun n => ?_)
  · unfold wY_operate_40
    exact h0 (by omega)
  · unfold wY_operate_40
    exact h0 (by omega)
theorem yp_cmp {yma ypo yhe yvm : Int32} {yin : Int64} {yfi yde yap yas yto : Int32} {yan : Int64} {yco yti yna yac yen yic : Int32} {o l kS d : Nat → Int32} {pl ys : Nat → Int64} {yk yn yp yf yo : Nat → Int32} {yi : Nat → Int64} {yw ya y1 y2 : Nat → Int32} {yK : Nat → Int64} {yW : Nat → Int32} {yL : Nat → Int64} {yq nm : Nat → Int32} {nv : Nat → Int64} {no : Nat → Int32} {yA lf rt : Nat → Int64} {iK iN : Nat → Int32} {V : Nat → Prop} {K N Z D Im W P : Nat → Int32} {post : SY → Prop} {kk a mk pd s t κ κ' : Nat} {x x' : Int32} (hx : vv_ox V K N Z D Im W P) (hy : vv_cy mk pd o l pl) (hs : s < 653) (ht : t < 653) (Rs : vv_R V K N Z D P mk o l kS d pl (nI s) (yy_t κ x)) (Rt : vv_R V K N Z D P mk o l kS d pl (nI t) (yy_t κ' x')) (hκ : κ ≤ 5) (hκ' : κ' ≤ 5) (hk : kk = 37 ∨ kk = 38) (ea : yas = nI (a + 1))
    (h2 : (kk = 37 ∧ oo_c (oo_h K N) Z P 4 s t < 0) ∨ (kk = 38 ∧ oo_c (oo_h K N) Z P 4 s t = 0) → ∀ lf' rt' : Nat → Int64, post (yma, ypo, yhe, yvm, yin, yfi, yde, yap, (nI a), 0, (yy_t 2 0), yco, yti, yna, yac, yen, yic, o, l, kS, d, pl, ys, yk, yn, yp, yf, yo, yi, yw, ya, y1, y2, yK, yW, yL, yq, nm, nv, no, yA, lf', rt', iK, iN))
    (h1 : (kk = 37 ∧ ¬ oo_c (oo_h K N) Z P 4 s t < 0) ∨ (kk = 38 ∧ ¬ oo_c (oo_h K N) Z P 4 s t = 0) → ∀ lf' rt' : Nat → Int64, post (yma, ypo, yhe, yvm, yin, yfi, yde, yap, (nI a), 0, (yy_t 1 0), yco, yti, yna, yac, yen, yic, o, l, kS, d, pl, ys, yk, yn, yp, yf, yo, yi, yw, ya, y1, y2, yK, yW, yL, yq, nm, nv, no, yA, lf', rt', iK, iN)) : wpY_operate post (yma, ypo, yhe, yvm, yin, yfi, yde, yap, yas, yto, yan, yco, yti, yna, yac, yen, yic, o, l, kS, d, pl, ys, yk, yn, yp, yf, yo, yi, yw, ya, y1, y2, yK, yW, yL, yq, nm, nv, no, yA, lf, rt, iK, iN) (nI kk) (yy_t κ x) (yy_t κ' x') := by
  have k55 : wY_operate_55 post (nI kk) (yy_t κ x) (yy_t κ' x') yma ypo yhe yvm yin yfi yde yap yas yto yan yco yti yna yac yen yic o l kS d pl ys yk yn yp yf yo yi yw ya y1 y2 yK yW yL yq nm nv no yA lf rt iK iN := by
    unfold wY_operate_55
    refine ym_compare hx hy hs ht Rs Rt (fun lf' rt' => ?_)
    refine pk_eq kk 37 (fun e => br_c (fun z => ?_) (fun z => ?_)) (fun ne => br_c (fun z => ?_) (fun z => ?_))
    · unfold wY_operate_96
      exact ym_truth (fun _ => yr_tell ea (h1 (Or.inl ⟨e, fun w => Int32.not_lt.mpr z w⟩) lf' rt')) (fun z => absurd rfl z)
    · unfold wY_operate_96
      exact ym_truth (fun z => absurd z (by decide)) (fun _ => yr_tell ea (h2 (Or.inl ⟨e, Int32.not_le.mp z⟩) lf' rt'))
    · unfold wY_operate_96
      exact ym_truth (fun z => absurd z (by decide)) (fun _ => yr_tell ea (h2 (Or.inr ⟨by omega, z⟩) lf' rt'))
    · unfold wY_operate_96
      exact ym_truth (fun _ => yr_tell ea (h1 (Or.inr ⟨by omega, z⟩) lf' rt')) (fun z => absurd rfl z)
  have k41 : ∀ b : Int32, wY_operate_41 post (nI kk) (yy_t κ x) (yy_t κ' x') (nI κ) (nI κ') x x' b yma ypo yhe yvm yin yfi yde yap yas yto yan yco yti yna yac yen yic o l kS d pl ys yk yn yp yf yo yi yw ya y1 y2 yK yW yL yq nm nv no yA lf rt iK iN := by
    intro b
    unfold wY_operate_41
    exact pk_eq kk 37 (fun _ => k55) (fun n => br_t (by rw [show kk = 38 by omega]; rfl) k55)
  exact yp_pre hκ hκ' (fun _ => k41 1) (fun _ => k41 0)
theorem yp_41 {yma ypo yhe yvm : Int32} {yin : Int64} {yfi yde yap yas yto : Int32} {yan : Int64} {yco yti yna yac yen yic : Int32} {o l kS d : Nat → Int32} {pl ys : Nat → Int64} {yk yn yp yf yo : Nat → Int32} {yi : Nat → Int64} {yw ya y1 y2 : Nat → Int32} {yK : Nat → Int64} {yW : Nat → Int32} {yL : Nat → Int64} {yq nm : Nat → Int32} {nv : Nat → Int64} {no : Nat → Int32} {yA lf rt : Nat → Int64} {iK iN : Nat → Int32} {post : SY → Prop} {kk κ κ' : Nat} {x x' b : Int32} {w w' : Int64} (h32 : 32 ≤ kk) (h36 : kk ≤ 36) (hκ : κ ≤ 5) (hκ' : κ' ≤ 5) (hs : kk = 32 → ¬ (κ = 0 ∨ κ' = 0)) (h : wY_operate_140 post (nI kk) w w' (nI κ) (nI κ') x x' b yma ypo yhe yvm yin yfi yde yap yas yto yan yco yti yna yac yen yic o l kS d pl ys yk yn yp yf yo yi yw ya y1 y2 yK yW yL yq nm nv no yA lf rt iK iN) : wY_operate_41 post (nI kk) w w' (nI κ) (nI κ') x x' b yma ypo yhe yvm yin yfi yde yap yas yto yan yco yti yna yac yen yic o l kS d pl ys yk yn yp yf yo yi yw ya y1 y2 yK yW yL yq nm nv no yA lf rt iK iN := by
  unfold wY_operate_41
  refine br_f (fun z => absurd ((nI_eq (b := 37) (by omega) (by omega)).mp z) (by omega)) (br_f (fun z => absurd ((nI_eq (b := 38) (by omega) (by omega)).mp z) (by omega)) (pk_eq kk 32 (fun e => ?_) (fun _ => h)))
  exact br_f (fun z => hs e (Or.inl ((nI_eq (b := 0) (by omega) (by omega)).mp z))) (br_f (fun z => hs e (Or.inr ((nI_eq (b := 0) (by omega) (by omega)).mp z))) h)
theorem yp_sum0 {yma ypo yhe yvm : Int32} {yin : Int64} {yfi yde yap yas yto : Int32} {yan : Int64} {yco yti yna yac yen yic : Int32} {o l kS d : Nat → Int32} {pl ys : Nat → Int64} {yk yn yp yf yo : Nat → Int32} {yi : Nat → Int64} {yw ya y1 y2 : Nat → Int32} {yK : Nat → Int64} {yW : Nat → Int32} {yL : Nat → Int64} {yq nm : Nat → Int32} {nv : Nat → Int64} {no : Nat → Int32} {yA lf rt : Nat → Int64} {iK iN : Nat → Int32} {post : SY → Prop} {a κ κ' : Nat} {x x' : Int32} (hκ : κ ≤ 5) (hκ' : κ' ≤ 5) (hz : κ = 0 ∨ κ' = 0) (ea : yas = nI (a + 1)) (h0 : κ = 0 → post (yma, ypo, yhe, yvm, yin, yfi, yde, yap, (nI a), 0, (yy_t κ' x'), yco, yti, yna, yac, yen, yic, o, l, kS, d, pl, ys, yk, yn, yp, yf, yo, yi, yw, ya, y1, y2, yK, yW, yL, yq, nm, nv, no, yA, lf, rt, iK, iN)) (h1 : κ ≠ 0 → post (yma, ypo, yhe, yvm, yin, yfi, yde, yap, (nI a), 0, (yy_t κ x), yco, yti, yna, yac, yen, yic, o, l, kS, d, pl, ys, yk, yn, yp, yf, yo, yi, yw, ya, y1, y2, yK, yW, yL, yq, nm, nv, no, yA, lf, rt, iK, iN)) : wpY_operate post (yma, ypo, yhe, yvm, yin, yfi, yde, yap, yas, yto, yan, yco, yti, yna, yac, yen, yic, o, l, kS, d, pl, ys, yk, yn, yp, yf, yo, yi, yw, ya, y1, y2, yK, yW, yL, yq, nm, nv, no, yA, lf, rt, iK, iN) (nI 32) (yy_t κ x) (yy_t κ' x') := by
  have k121 : wY_operate_121 post (yy_t κ x) (yy_t κ' x') (nI κ) yma ypo yhe yvm yin yfi yde yap yas yto yan yco yti yna yac yen yic o l kS d pl ys yk yn yp yf yo yi yw ya y1 y2 yK yW yL yq nm nv no yA lf rt iK iN := by
    unfold wY_operate_121
    refine pk_eq κ 0 (fun e => ?_) (fun ne => ?_)
    · unfold wY_operate_134
      exact yr_tell ea (h0 e)
    · unfold wY_operate_134
      exact yr_tell ea (h1 ne)
  have k41 : ∀ b : Int32, wY_operate_41 post (nI 32) (yy_t κ x) (yy_t κ' x') (nI κ) (nI κ') x x' b yma ypo yhe yvm yin yfi yde yap yas yto yan yco yti yna yac yen yic o l kS d pl ys yk yn yp yf yo yi yw ya y1 y2 yK yW yL yq nm nv no yA lf rt iK iN := by
    intro b
    unfold wY_operate_41
    exact br_f (by decide) (br_f (by decide) (br_t rfl (pk_eq κ 0 (fun _ => k121) (fun ne => br_t (by rw [show κ' = 0 by omega]; rfl) k121))))
  exact yp_pre hκ hκ' (fun _ => k41 1) (fun _ => k41 0)
theorem yp_arr {yma ypo yhe yvm : Int32} {yin : Int64} {yfi yde yap yas yto : Int32} {yan : Int64} {yco yti yna yac yen yic : Int32} {o l kS d : Nat → Int32} {pl ys : Nat → Int64} {yk yn yp yf yo : Nat → Int32} {yi : Nat → Int64} {yw ya y1 y2 : Nat → Int32} {yK : Nat → Int64} {yW : Nat → Int32} {yL : Nat → Int64} {yq nm : Nat → Int32} {nv : Nat → Int64} {no : Nat → Int32} {yA lf rt : Nat → Int64} {iK iN : Nat → Int32} {yma' ypo' yhe' yvm' : Int32} {yin' : Int64} {yfi' yde' yap' yas' yto' : Int32} {yan' : Int64} {yco' yti' yna' yac' yen' yic' : Int32} {o' l' kS' d' : Nat → Int32} {pl' ys' : Nat → Int64} {yk' yn' yp' yf' yo' : Nat → Int32} {yi' : Nat → Int64} {yw' ya' y1' y2' : Nat → Int32} {yK' : Nat → Int64} {yW' : Nat → Int32} {yL' : Nat → Int64} {yq' nm' : Nat → Int32} {nv' : Nat → Int64} {no' : Nat → Int32} {yA' lf' rt' : Nat → Int64} {iK' iN' : Nat → Int32} {post : SY → Prop} {kk : Nat} {x x' : Int32} (hk : kk = 32 ∨ kk = 33) (hA : ∀ Q : SY → Prop, Q (yma', ypo', yhe', yvm', yin', yfi', yde', yap', yas', yto', yan', yco', yti', yna', yac', yen', yic', o', l', kS', d', pl', ys', yk', yn', yp', yf', yo', yi', yw', ya', y1', y2', yK', yW', yL', yq', nm', nv', no', yA', lf', rt', iK', iN') → wpY_tellArrays Q (yma, ypo, yhe, yvm, yin, yfi, yde, yap, yas, yto, yan, yco, yti, yna, yac, yen, yic, o, l, kS, d, pl, ys, yk, yn, yp, yf, yo, yi, yw, ya, y1, y2, yK, yW, yL, yq, nm, nv, no, yA, lf, rt, iK, iN) (nI kk) (yy_t 4 x) (yy_t 4 x')) (hp : post (yma', ypo', yhe', yvm', yin', yfi', yde', yap', yas', yto', yan', yco', yti', yna', yac', yen', yic', o', l', kS', d', pl', ys', yk', yn', yp', yf', yo', yi', yw', ya', y1', y2', yK', yW', yL', yq', nm', nv', no', yA', lf', rt', iK', iN')) : wpY_operate post (yma, ypo, yhe, yvm, yin, yfi, yde, yap, yas, yto, yan, yco, yti, yna, yac, yen, yic, o, l, kS, d, pl, ys, yk, yn, yp, yf, yo, yi, yw, ya, y1, y2, yK, yW, yL, yq, nm, nv, no, yA, lf, rt, iK, iN) (nI kk) (yy_t 4 x) (yy_t 4 x') := by
  refine yp_pre (by omega) (by omega) (fun w => absurd w (by omega)) (fun _ => ?_)
  refine yp_41 (by omega) (by omega) (by omega) (by omega) (fun _ => by omega) ?_
  unfold wY_operate_140
  exact br_f (nI_ge (b := 34) (by omega) (by omega)) (br_t rfl (br_t rfl (hA _ hp)))
theorem yp_169 {yma ypo yhe yvm : Int32} {yin : Int64} {yfi yde yap yas yto : Int32} {yan : Int64} {yco yti yna yac yen yic : Int32} {o l kS d : Nat → Int32} {pl ys : Nat → Int64} {yk yn yp yf yo : Nat → Int32} {yi : Nat → Int64} {yw ya y1 y2 : Nat → Int32} {yK : Nat → Int64} {yW : Nat → Int32} {yL : Nat → Int64} {yq nm : Nat → Int32} {nv : Nat → Int64} {no : Nat → Int32} {yA lf rt : Nat → Int64} {iK iN : Nat → Int32} {post : SY → Prop} {kk κ κ' : Nat} {x x' b : Int32} {w w' : Int64} (h32 : 32 ≤ kk) (h36 : kk ≤ 36) (hκ : κ ≤ 5) (hκ' : κ' ≤ 5) (hn : ¬ (kk < 34 ∧ κ = 4 ∧ κ' = 4)) (h : wY_operate_169 post (nI kk) w w' (nI κ) (nI κ') x x' b yma ypo yhe yvm yin yfi yde yap yas yto yan yco yti yna yac yen yic o l kS d pl ys yk yn yp yf yo yi yw ya y1 y2 yK yW yL yq nm nv no yA lf rt iK iN) : wY_operate_140 post (nI kk) w w' (nI κ) (nI κ') x x' b yma ypo yhe yvm yin yfi yde yap yas yto yan yco yti yna yac yen yic o l kS d pl ys yk yn yp yf yo yi yw ya y1 y2 yK yW yL yq nm nv no yA lf rt iK iN := by
  unfold wY_operate_140
  exact pk_le 34 kk (fun _ => h) (fun z => pk_eq κ 4 (fun e => pk_eq κ' 4 (fun e' => absurd ⟨z, e, e'⟩ hn) (fun _ => h)) (fun _ => h))
theorem yp_obj {yma ypo yhe yvm : Int32} {yin : Int64} {yfi yde yap yas yto : Int32} {yan : Int64} {yco yti yna yac yen yic : Int32} {o l kS d : Nat → Int32} {pl ys : Nat → Int64} {yk yn yp yf yo : Nat → Int32} {yi : Nat → Int64} {yw ya y1 y2 : Nat → Int32} {yK : Nat → Int64} {yW : Nat → Int32} {yL : Nat → Int64} {yq nm : Nat → Int32} {nv : Nat → Int64} {no : Nat → Int32} {yA lf rt : Nat → Int64} {iK iN : Nat → Int32} {yma' ypo' yhe' yvm' : Int32} {yin' : Int64} {yfi' yde' yap' yas' yto' : Int32} {yan' : Int64} {yco' yti' yna' yac' yen' yic' : Int32} {o' l' kS' d' : Nat → Int32} {pl' ys' : Nat → Int64} {yk' yn' yp' yf' yo' : Nat → Int32} {yi' : Nat → Int64} {yw' ya' y1' y2' : Nat → Int32} {yK' : Nat → Int64} {yW' : Nat → Int32} {yL' : Nat → Int64} {yq' nm' : Nat → Int32} {nv' : Nat → Int64} {no' : Nat → Int32} {yA' lf' rt' : Nat → Int64} {iK' iN' : Nat → Int32} {post : SY → Prop} {x x' : Int32} (hA : ∀ Q : SY → Prop, Q (yma', ypo', yhe', yvm', yin', yfi', yde', yap', yas', yto', yan', yco', yti', yna', yac', yen', yic', o', l', kS', d', pl', ys', yk', yn', yp', yf', yo', yi', yw', ya', y1', y2', yK', yW', yL', yq', nm', nv', no', yA', lf', rt', iK', iN') → wpY_tellObjects Q (yma, ypo, yhe, yvm, yin, yfi, yde, yap, yas, yto, yan, yco, yti, yna, yac, yen, yic, o, l, kS, d, pl, ys, yk, yn, yp, yf, yo, yi, yw, ya, y1, y2, yK, yW, yL, yq, nm, nv, no, yA, lf, rt, iK, iN) (yy_t 5 x) (yy_t 5 x')) (hp : post (yma', ypo', yhe', yvm', yin', yfi', yde', yap', yas', yto', yan', yco', yti', yna', yac', yen', yic', o', l', kS', d', pl', ys', yk', yn', yp', yf', yo', yi', yw', ya', y1', y2', yK', yW', yL', yq', nm', nv', no', yA', lf', rt', iK', iN')) : wpY_operate post (yma, ypo, yhe, yvm, yin, yfi, yde, yap, yas, yto, yan, yco, yti, yna, yac, yen, yic, o, l, kS, d, pl, ys, yk, yn, yp, yf, yo, yi, yw, ya, y1, y2, yK, yW, yL, yq, nm, nv, no, yA, lf, rt, iK, iN) (nI 32) (yy_t 5 x) (yy_t 5 x') := by
  refine yp_pre (by omega) (by omega) (fun w => absurd w (by omega)) (fun _ => ?_)
  refine yp_41 (by omega) (by omega) (by omega) (by omega) (fun _ => by omega) (yp_169 (by omega) (by omega) (by omega) (by omega) (by omega) ?_)
  unfold wY_operate_169
  exact br_t rfl (br_t rfl (br_t rfl (hA _ hp)))
theorem yp_197 {yma ypo yhe yvm : Int32} {yin : Int64} {yfi yde yap yas yto : Int32} {yan : Int64} {yco yti yna yac yen yic : Int32} {o l kS d : Nat → Int32} {pl ys : Nat → Int64} {yk yn yp yf yo : Nat → Int32} {yi : Nat → Int64} {yw ya y1 y2 : Nat → Int32} {yK : Nat → Int64} {yW : Nat → Int32} {yL : Nat → Int64} {yq nm : Nat → Int32} {nv : Nat → Int64} {no : Nat → Int32} {yA lf rt : Nat → Int64} {iK iN : Nat → Int32} {post : SY → Prop} {kk κ κ' : Nat} {x x' b : Int32} {w w' : Int64} (h32 : 32 ≤ kk) (h36 : kk ≤ 36) (hκ : κ ≤ 5) (hκ' : κ' ≤ 5) (hn : ¬ (kk < 34 ∧ κ = 4 ∧ κ' = 4)) (hn5 : ¬ (kk = 32 ∧ κ = 5 ∧ κ' = 5)) (h : wY_operate_197 post (nI kk) x x' b yma ypo yhe yvm yin yfi yde yap yas yto yan yco yti yna yac yen yic o l kS d pl ys yk yn yp yf yo yi yw ya y1 y2 yK yW yL yq nm nv no yA lf rt iK iN) : wY_operate_140 post (nI kk) w w' (nI κ) (nI κ') x x' b yma ypo yhe yvm yin yfi yde yap yas yto yan yco yti yna yac yen yic o l kS d pl ys yk yn yp yf yo yi yw ya y1 y2 yK yW yL yq nm nv no yA lf rt iK iN := by
  refine yp_169 h32 h36 hκ hκ' hn ?_
  unfold wY_operate_169
  exact pk_eq kk 32 (fun e => pk_eq κ 5 (fun e5 => pk_eq κ' 5 (fun e5' => absurd ⟨e, e5, e5'⟩ hn5) (fun _ => h)) (fun _ => h)) (fun _ => h)
theorem yp_err {yma ypo yhe yvm : Int32} {yin : Int64} {yfi yde yap yas yto : Int32} {yan : Int64} {yco yti yna yac yen yic : Int32} {o l kS d : Nat → Int32} {pl ys : Nat → Int64} {yk yn yp yf yo : Nat → Int32} {yi : Nat → Int64} {yw ya y1 y2 : Nat → Int32} {yK : Nat → Int64} {yW : Nat → Int32} {yL : Nat → Int64} {yq nm : Nat → Int32} {nv : Nat → Int64} {no : Nat → Int32} {yA lf rt : Nat → Int64} {iK iN : Nat → Int32} {post : SY → Prop} {kk a κ κ' : Nat} {x x' : Int32} (h32 : 32 ≤ kk) (h36 : kk ≤ 36) (hκ : κ ≤ 5) (hκ' : κ' ≤ 5) (hs : kk = 32 → ¬ (κ = 0 ∨ κ' = 0)) (hn : ¬ (kk < 34 ∧ κ = 4 ∧ κ' = 4)) (hn5 : ¬ (kk = 32 ∧ κ = 5 ∧ κ' = 5)) (he : κ = 3 ∧ κ' = 3 → 34 < kk ∧ x' = 0) (ea : yas = nI (a + 1)) (hp : post (yma, ypo, yhe, yvm, yin, yfi, yde, yap, (nI a), 2, 0, yco, yti, yna, yac, yen, yic, o, l, kS, d, pl, ys, yk, yn, yp, yf, yo, yi, yw, ya, y1, y2, yK, yW, yL, yq, nm, nv, no, yA, lf, rt, iK, iN)) : wpY_operate post (yma, ypo, yhe, yvm, yin, yfi, yde, yap, yas, yto, yan, yco, yti, yna, yac, yen, yic, o, l, kS, d, pl, ys, yk, yn, yp, yf, yo, yi, yw, ya, y1, y2, yK, yW, yL, yq, nm, nv, no, yA, lf, rt, iK, iN) (nI kk) (yy_t κ x) (yy_t κ' x') := by
  have k213 : wY_operate_213 post yma ypo yhe yvm yin yfi yde yap yas yto yan yco yti yna yac yen yic o l kS d pl ys yk yn yp yf yo yi yw ya y1 y2 yK yW yL yq nm nv no yA lf rt iK iN := by
    unfold wY_operate_213
    exact yr_tell ea hp
  refine yp_pre hκ hκ' (fun w => ?_) (fun w => ?_)
  · obtain ⟨e1, e2⟩ := he w
    refine yp_41 h32 h36 hκ hκ' hs (yp_197 h32 h36 hκ hκ' hn hn5 ?_)
    unfold wY_operate_197
    exact br_f (by decide) (br_f (nI_ge (a := 34) e1 (by omega)) (br_t e2 k213))
  · refine yp_41 h32 h36 hκ hκ' hs (yp_197 h32 h36 hκ hκ' hn hn5 ?_)
    unfold wY_operate_197
    exact br_t rfl k213
theorem yp_num {yma ypo yhe yvm : Int32} {yin : Int64} {yfi yde yap yas yto : Int32} {yan : Int64} {yco yti yna yac yen yic : Int32} {o l kS d : Nat → Int32} {pl ys : Nat → Int64} {yk yn yp yf yo : Nat → Int32} {yi : Nat → Int64} {yw ya y1 y2 : Nat → Int32} {yK : Nat → Int64} {yW : Nat → Int32} {yL : Nat → Int64} {yq nm : Nat → Int32} {nv : Nat → Int64} {no : Nat → Int32} {yA lf rt : Nat → Int64} {iK iN : Nat → Int32} {post : SY → Prop} {kk a : Nat} {x x' y : Int32} (h32 : 32 ≤ kk) (h36 : kk ≤ 36) (hz : 34 < kk → ¬ x' = 0) (hy : (kk = 32 → y = x + x') ∧ (kk = 33 → y = x - x') ∧ (kk = 34 → y = x * x') ∧ (kk = 35 → y = x / x') ∧ (kk = 36 → y = x - x / x' * x')) (ea : yas = nI (a + 1)) (hp : post (yma, ypo, yhe, yvm, yin, yfi, yde, yap, (nI a), 0, (yy_t 3 y), yco, yti, yna, yac, yen, yic, o, l, kS, d, pl, ys, yk, yn, yp, yf, yo, yi, yw, ya, y1, y2, yK, yW, yL, yq, nm, nv, no, yA, lf, rt, iK, iN)) : wpY_operate post (yma, ypo, yhe, yvm, yin, yfi, yde, yap, yas, yto, yan, yco, yti, yna, yac, yen, yic, o, l, kS, d, pl, ys, yk, yn, yp, yf, yo, yi, yw, ya, y1, y2, yK, yW, yL, yq, nm, nv, no, yA, lf, rt, iK, iN) (nI kk) (yy_t 3 x) (yy_t 3 x') := by
  obtain ⟨u1, u2, u3, u4, u5⟩ := hy
  have k287 : ∀ v : Int32, v = y → wY_operate_287 post v 3 0 yma ypo yhe yvm yin yfi yde yap yas yto yan yco yti yna yac yen yic o l kS d pl ys yk yn yp yf yo yi yw ya y1 y2 yK yW yL yq nm nv no yA lf rt iK iN := by
    intro v hv
    subst hv
    unfold wY_operate_287
    exact ym_thing (κ := 3) (by omega) (yr_tell ea hp)
  have k222 : wY_operate_222 post (nI kk) x x' yma ypo yhe yvm yin yfi yde yap yas yto yan yco yti yna yac yen yic o l kS d pl ys yk yn yp yf yo yi yw ya y1 y2 yK yW yL yq nm nv no yA lf rt iK iN := by
    unfold wY_operate_222
    exact pk_eq kk 32 (fun e => k287 _ (u1 e).symm) (fun n32 => pk_eq kk 33 (fun e => k287 _ (u2 e).symm) (fun n33 => pk_eq kk 34 (fun e => k287 _ (u3 e).symm) (fun n34 => pk_eq kk 35 (fun e => ⟨hz (by omega), k287 _ (u4 e).symm⟩) (fun n35 => ⟨hz (by omega), k287 _ (u5 (by omega)).symm⟩))))
  refine yp_pre (by omega) (by omega) (fun _ => ?_) (fun w => absurd ⟨rfl, rfl⟩ w)
  refine yp_41 h32 h36 (by omega) (by omega) (fun _ => by omega) (yp_197 h32 h36 (by omega) (by omega) (by omega) (by omega) ?_)
  unfold wY_operate_197
  exact br_f (by decide) (pk_le kk 34 (fun _ => k222) (fun w => br_f (hz w) k222))
end
section
/-! ===== the run in lockstep: what holds at the head of X's loop ===== -/
/-- Y's stack of those asked is the path -/
def md_q (yq : Nat → Int32) : List Nat → Prop
  | [] => True
  | g :: l => yq l.length = nI g ∧ md_q yq l
/-- frames that have neither given nor begun; what frames may still cost -/
def md_w2 (fA fG : Nat → Int32) (f : Nat) : Nat := if fG f = 0 ∧ fA f = -1 then 1 else 0
/-- 'all' begun and not given -/
def md_w3 (pO fP fA fG : Nat → Int32) (f : Nat) : Nat := if fr_o pO fP f = 16 ∧ fA f ≠ -1 ∧ fG f = 0 then 1 else 0
def md_w1 (fO fA fG : Nat → Int32) (f : Nat) : Nat := (if fG f = 0 then 1 else 0) + (if fA f = fO f then 0 else 1)
/-- the phase: 0 asked, 1 answered, else ended or failed -/
def md_ph (xsi : Int32) (len : Nat) : Nat := if xsi = 0 then 360 - 4 * len else if xsi = 1 then 400 + 4 * len else 20 + 4 * len
/-- X's slots -/
def md_hx (V : Nat → Prop) (bo rm : Nat) (K N Z D Im W P K0 N0 Z0 D0 I0 W0 P0 : Nat → Int32) : Prop :=
  vv_ox V K N Z D Im W P ∧ (∀ s, V s → (s < bo ∨ 53 ≤ s) ∧ s < 53 + rm) ∧ bo ≤ 53 ∧ rl_b V K N ∧ vv_eq (fun s => s < 53) K0 N0 Z0 D0 I0 W0 P0 K N Z D Im W P
/-- arrays that 'all' is still filling -/
def md_bx (V : Nat → Prop) (rm n : Nat) (pO fP fA fH fG K N Z D P : Nat → Int32) : Prop :=
  (∀ f, f < n → fr_o pO fP f = 16 → fA f ≠ -1 → fG f = 0 → ∃ h z, fH f = nI h ∧ 53 ≤ h ∧ h < 53 + rm ∧ ¬ V h ∧ K h = 4 ∧ N h = 0 ∧ Z h = nI z ∧ z ≤ 10 ∧ ∀ i, i < z → ∃ c e, P (h * 10 + i) = nI c ∧ V c ∧ D c = nI e ∧ e ≤ 3) ∧
  (∀ f f', f < n → f' < n → f ≠ f' → fr_o pO fP f = 16 → fA f ≠ -1 → fG f = 0 → fr_o pO fP f' = 16 → fA f' ≠ -1 → fG f' = 0 → fH f ≠ fH f')
/-- X alone, at the head of its loop: st steps done, path g :: pa -/
def md_X (V al : Nat → Prop) (g : Nat) (pa : List Nat) (bo np n c rm a st : Nat) (xfr xno xsi xen xco xrm xac : Int32) (K N Z D Im W P K0 N0 Z0 D0 I0 W0 P0 pO pX fP fU fR fO fA fH fG : Nat → Int32) : Prop :=
  (xfr = nI n ∧ xno = nI g ∧ xen = -1 ∧ xco = nI c ∧ xrm = nI rm ∧ xac = nI a ∧ a < 20 ∧ n ≤ c ∧ c ≤ 600 ∧ np ≤ 40) ∧
  (xsi = 0 ∨ xsi = 1 ∨ xsi = 2 ∨ xsi = 3) ∧
  md_hx V bo rm K N Z D Im W P K0 N0 Z0 D0 I0 W0 P0 ∧ md_bx V rm n pO fP fA fH fG K N Z D P ∧
  fr_X pO pX np n fP fU fR fO fA fG al (g :: pa) (xsi = 0 ∨ xsi = 1) ∧
  rm + vv_sm (md_w2 fA fG) n ≤ c ∧ (∀ f, f < n → ∃ gv, fG f = nI gv ∧ gv ≤ st) ∧
  st + 1600 * (600 - c) + 600 * vv_sm (md_w1 fO fA fG) n + md_ph xsi (pa.length + 1) ≤ 999999
/-- Y's pool and composites -/
def md_hy (rm mk pd mk0 pd0 : Nat) (o l kS d : Nat → Int32) (pl : Nat → Int64) (o0 l0 k0 d0 : Nat → Int32) (pl0 : Nat → Int64) : Prop :=
  vv_cy mk pd o l pl ∧ mk0 ≤ mk ∧ mk ≤ 40 + rm ∧ pd0 ≤ pd ∧ pd ≤ 400 + 10 * rm ∧ (∀ j, j < mk0 → o j = o0 j ∧ l j = l0 j ∧ kS j = k0 j ∧ d j = d0 j) ∧ ∀ i, i < pd0 → pl i = pl0 i
/-- the cells that 'all' has taken of the pool -/
def md_by (R : Int32 → Int64 → Prop) (n mk pd pd0 : Nat) (pO fP fA fH fG Z P : Nat → Int32) (o l ya yW : Nat → Int32) (pl : Nat → Int64) : Prop :=
  (∀ f, f < n → fr_o pO fP f = 16 → fA f ≠ -1 → ∃ a w, ya f = nI (a + 1) ∧ yW f = nI w ∧ w ≤ 10 ∧ pd0 ≤ a ∧ a + 10 ≤ pd ∧ (∀ j x y, j < mk → o j = nI x → l j = nI y → y ≤ 10 → x + y ≤ pd → x + y ≤ a + w ∨ a + 10 ≤ x) ∧
    (fG f = 0 → Z (fH f).toNatClampNeg = nI w ∧ ∀ i, i < w → R (P ((fH f).toNatClampNeg * 10 + i)) (pl (a + i)))) ∧
  (∀ f f' a a', f < n → f' < n → f ≠ f' → fr_o pO fP f = 16 → fA f ≠ -1 → fr_o pO fP f' = 16 → fA f' ≠ -1 → ya f = nI (a + 1) → ya f' = nI (a' + 1) → a < 8200 → a' < 8200 → a + 10 ≤ a' ∨ a' + 10 ≤ a)
/-- g of deep's answers are given, the last of them by this way -/
def md_dp (Z W P : Nat → Int32) (s : Int32) (g way : Nat) : Prop := ∃ p, way = dp_wy p ∧ p.length ≤ 4 ∧ dp_ok Z P p s.toNatClampNeg ∧ dp_ix W P p s.toNatClampNeg = g
def md_ea (Z : Nat → Int32) (s : Int32) (g : Nat) : Prop := g ≤ (Z s.toNatClampNeg).toNatClampNeg
/-- X and Y, at the head of X's loop -/
def md_Y (V : Nat → Prop) (pa : List Nat) (g np n c rm a st mk pd nd mk0 pd0 : Nat) (xsi xan : Int32) (K N Z D W P pO pX pI fP fI fO fA fH fG fN aS : Nat → Int32)
    (yma ypo yap yas yto : Int32) (yan : Int64) (yco yti yna yac yen : Int32) (o ln kS d : Nat → Int32) (pl : Nat → Int64) (yk yn yp yo : Nat → Int32) (yi : Nat → Int64) (yw ya y1 y2 : Nat → Int32) (yK : Nat → Int64) (yW : Nat → Int32) (yL : Nat → Int64) (yq nm : Nat → Int32) (nv : Nat → Int64) (no : Nat → Int32) (yA : Nat → Int64)
    (o0 l0 k0 d0 : Nat → Int32) (pl0 : Nat → Int64) : Prop :=
  (yma = nI mk ∧ ypo = nI pd ∧ yap = nI n ∧ yco = nI c ∧ yti = 0 ∧ yna = nI nd ∧ nd ≤ n ∧ yac = nI a ∧ yen = -1000000004 ∧ yn = pX ∧ yp = pI ∧ mk + vv_sm (md_w3 pO fP fA fG) n ≤ 40 + rm) ∧
  (∀ q, q < np → fl_p pO pX pI yk q) ∧ en_ok nd no ∧
  md_hy rm mk pd mk0 pd0 o ln kS d pl o0 l0 k0 d0 pl0 ∧
  md_by (vv_R V K N Z D P mk o ln kS d pl) n mk pd pd0 pO fP fA fH fG Z P o ln ya yW pl ∧
  (∀ f, f < n → fr_R (vv_R V K N Z D P mk o ln kS d pl) (md_ea Z) (md_dp Z W P) (en_e nm no nv) nd st pO pX fP fI fO fA fH fG fN yo yi yw ya y1 y2 yK yW yL f) ∧
  (∀ i, i < a → vv_R V K N Z D P mk o ln kS d pl (aS i) (yA i)) ∧
  (xsi = 0 → yas = nI (pa.length + 1) ∧ md_q yq (g :: pa)) ∧
  (xsi ≠ 0 → yas = nI pa.length ∧ md_q yq pa) ∧
  (xsi = 1 → yto = 0 ∧ vv_R V K N Z D P mk o ln kS d pl xan yan) ∧ (xsi = 2 → yto = 1) ∧ (xsi = 3 → yto = 2)
/-- a state of Y from which the run may be worked out -/
def kn_F (T : List Nat → Option vv_L) (np nf : Nat) (pO pX pI fS : Nat → Int32) (mk0 pd0 : Nat) (v0 : SY) : Prop :=
  match v0 with
  | (yma, ypo, yhe, yvm, yin, yfi, yde, yap, yas, yto, yan, yco, yti, yna, yac, yen, yic, o, l, kS, d, pl, ys, yk, yn, yp, yf, yo, yi, yw, ya, y1, y2, yK, yW, yL, yq, nm, nv, no, yA, lf, rt, iK, iN) => kn_fam T np nf pO pX pI fS mk0 pd0 yma ypo yin yfi yde o l kS d pl yk yn yp yf
end
section
/-! ===== facts at the head of X's loop ===== -/
section
variable {pO pX fP fU fR fO fA fG : Nat → Int32} {np n : Nat} {al : Nat → Prop} {m m' : Prop}
theorem fr_X_m {l : List Nat} (h : fr_X pO pX np n fP fU fR fO fA fG al l m) (hm : m' → m) : fr_X pO pX np n fP fU fR fO fA fG al l m' := by
  obtain ⟨h0, h1, h2, h3, h4, h5, h6⟩ := h
  exact ⟨h0, h1, h2, h3, h4, fun f hf hz => h5 f hf (hz.elim Or.inl (fun z => Or.inr ⟨hm z.1, z.2⟩)), h6⟩
/-- the parts fall along the path -/
theorem fr_len (h1 : ∀ f, f < n → fr_lk np n fP fU fR fO fA f) (hn : n ≤ 600) (hnp : np ≤ 40) : ∀ (l : List Nat) (c : Nat), fr_pa pO pX fP fU fA fG (c :: l) → (∀ f, f ∈ c :: l → f < n) → l.length + 1 + (fP c).toNatClampNeg ≤ np
  | [], c, _, hm => by
    obtain ⟨⟨q, e, hq⟩, _⟩ := h1 c (hm c List.mem_cons_self)
    rw [e, nI_clamp (by omega)]
    simp
    omega
  | p :: l, c, h, hm => by
    obtain ⟨a1, a2, a3, a4, a5⟩ := h
    have := fr_len h1 hn hnp l p a5 (fun f hf => hm f (List.mem_cons_of_mem _ hf))
    have hp := hm p (List.mem_cons_of_mem _ List.mem_cons_self)
    have hc := hm c List.mem_cons_self
    obtain ⟨_, _, k⟩ := h1 p hp
    rcases k with k | ⟨⟨c', e1, e2, e3, e4, e5⟩, _⟩
    · rw [a3] at k
      exact absurd k (fr_n1 (by omega))
    · have : c' = c := (nI_eq (by omega) (by omega)).mp (e1.symm.trans a3)
      subst this
      rw [List.length_cons]
      omega
end
theorem md_ph_0 (len : Nat) : md_ph 0 len = 360 - 4 * len := by unfold md_ph; rw [if_pos rfl]
theorem md_ph_1 (len : Nat) : md_ph 1 len = 400 + 4 * len := by unfold md_ph; rw [if_neg (by decide), if_pos rfl]
theorem md_ph_2 (len : Nat) : md_ph 2 len = 20 + 4 * len := by unfold md_ph; rw [if_neg (by decide), if_neg (by decide)]
theorem md_ph_3 (len : Nat) : md_ph 3 len = 20 + 4 * len := by unfold md_ph; rw [if_neg (by decide), if_neg (by decide)]
/-- what md_X says of the frame at hand -/
theorem mx_f {V al : Nat → Prop} {g : Nat} {pa : List Nat} {bo np n c rm a st : Nat} {xfr xno xsi xen xco xrm xac : Int32} {K N Z D Im W P K0 N0 Z0 D0 I0 W0 P0 pO pX fP fU fR fO fA fH fG : Nat → Int32}
    (h : md_X V al g pa bo np n c rm a st xfr xno xsi xen xco xrm xac K N Z D Im W P K0 N0 Z0 D0 I0 W0 P0 pO pX fP fU fR fO fA fH fG) :
    g < n ∧ n ≤ 600 ∧ st < 999980 ∧ pa.length + 1 ≤ 40 ∧ ∃ q, fP g = nI q ∧ q < np ∧ q < 40 := by
  obtain ⟨⟨x1, x2, x3, x4, x5, x6, x7, x8, x9, x10⟩, hs, hh, hb, hf, hr, hG, hpot⟩ := h
  obtain ⟨h0, h1, h2, h3, h4, h5, h6⟩ := hf
  have hg := h4 g (h3 g List.mem_cons_self)
  have hl := fr_len h1 h0 x10 pa g h2 (fun f hf => h4 f (h3 f hf))
  obtain ⟨⟨q, e, hq⟩, _⟩ := h1 g hg
  refine ⟨hg, h0, ?_, by omega, q, e, hq, by omega⟩
  have : 20 ≤ md_ph xsi (pa.length + 1) := by
    unfold md_ph
    split
    · omega
    · split <;> omega
  omega
/-- the part of the frame at hand, from any of Y's runs -/
theorem mx_o {pO pX pI yk : Nat → Int32} {fP : Nat → Int32} {g q : Nat} (e : fP g = nI q) (hq : q < 40) (h : fl_p pO pX pI yk q) : ∃ oq, oq ≤ 35 ∧ pO q = nI oq ∧ fr_o pO fP g = oq ∧ yk q = nI (fl_kk oq) ∧ (∀ r, r < fl_ar oq → ∃ c, pI (q * 3 + r) = nI c ∧ c < q) ∧
    (oq = 5 → ∃ m, m < 8 ∧ pX q = nI m) ∧ (oq = 6 → -10 ≤ (pX q).toInt ∧ (pX q).toInt ≤ 9) ∧ (oq = 13 → ∃ m, m < 3 ∧ pX q = nI m) ∧ (oq = 18 → ∃ m, m < 10 ∧ pX q = nI m) ∧ (oq = 20 → ∃ m, m < 8 ∧ pX q = nI m) ∧ (oq = 33 → ∃ m, m < 3 ∧ pX q = nI m) ∧ (oq = 35 → ∃ m, m < 3 ∧ pX q = nI m) := by
  obtain ⟨oq, a1, a2, a3, a4⟩ := h
  refine ⟨oq, a1, a2, ?_, a3, a4⟩
  unfold fr_o
  rw [e, nI_clamp (by omega), a2, nI_clamp (by omega)]
end
section
/-! ===== asked, and through ===== -/
/-- the kinds as Y numbers them -/
theorem kk_lt {oq : Nat} (h : oq ≤ 35) : fl_kk oq < 60 ∧ (oq < 16 → fl_kk oq = oq) ∧ (16 ≤ oq → 20 ≤ fl_kk oq) := by
  unfold fl_kk
  refine ⟨by split <;> (try split) <;> (try split) <;> omega, fun h => by rw [if_pos h], fun h => by rw [if_neg (by omega)]; split <;> (try split) <;> omega⟩
end
section
/-! ===== an end or an error goes outwards ===== -/
theorem md_qu {yq : Nat → Int32} {l : List Nat} {k : Nat} {x : Int32} : md_q yq l → l.length ≤ k → md_q (upd yq k x) l := by
  induction l with
  | nil => intro _ _; trivial
  | cons g l ih =>
    intro h hk
    obtain ⟨h1, h2⟩ := h
    rw [List.length_cons] at hk
    exact ⟨(pk_un (by omega)).trans h1, ih h2 (by omega)⟩
end
section
/-! ===== an answer goes outwards ===== -/
theorem md_w1_u {fO fA fG : Nat → Int32} {n p : Nat} {y : Int32} (hp : p < n) (hy : y = 0 → fG p = 0) : vv_sm (md_w1 fO fA (upd fG p y)) n ≤ vv_sm (md_w1 fO fA fG) n := by
  have h := ct_u (w := md_w1 fO fA fG) (w' := md_w1 fO fA (upd fG p y)) hp (fun f _ hne => by unfold md_w1; rw [pk_un hne])
  have h2 : md_w1 fO fA (upd fG p y) p ≤ md_w1 fO fA fG p := by
    unfold md_w1
    rw [pk_us]
    by_cases z : y = 0
    · rw [if_pos z, if_pos (hy z)]
      exact Nat.le_refl _
    · rw [if_neg z]
      omega
  omega
theorem md_w2_u {fA fG : Nat → Int32} {n p : Nat} {y : Int32} (hp : p < n) (hy : y = 0 → fG p = 0) : vv_sm (md_w2 fA (upd fG p y)) n ≤ vv_sm (md_w2 fA fG) n := by
  have h := ct_u (w := md_w2 fA fG) (w' := md_w2 fA (upd fG p y)) hp (fun f _ hne => by unfold md_w2; rw [pk_un hne])
  have h2 : md_w2 fA (upd fG p y) p ≤ md_w2 fA fG p := by
    unfold md_w2
    rw [pk_us]
    by_cases z : y = 0
    · rw [z, hy z]
      exact Nat.le_refl _
    · rw [if_neg (fun w => z w.1)]
      omega
  omega
theorem md_bx_G {V : Nat → Prop} {rm n p : Nat} {pO fP fA fH fG K N Z D P : Nat → Int32} {y : Int32} (h : md_bx V rm n pO fP fA fH fG K N Z D P) (ho : fr_o pO fP p ≠ 16) : md_bx V rm n pO fP fA fH (upd fG p y) K N Z D P := by
  obtain ⟨h1, h2⟩ := h
  have ne : ∀ f, fr_o pO fP f = 16 → f ≠ p := fun f hf e => ho (by rw [← e]; exact hf)
  refine ⟨fun f hf o16 hA hG => h1 f hf o16 hA (by rw [pk_un (ne f o16)] at hG; exact hG), fun f f' hf hf' hne o1 a1 g1 o2 a2 g2 => h2 f f' hf hf' hne o1 a1 (by rw [pk_un (ne f o1)] at g1; exact g1) o2 a2 (by rw [pk_un (ne f' o2)] at g2; exact g2)⟩
theorem md_by_G {R : Int32 → Int64 → Prop} {n mk pd pd0 p : Nat} {pO fP fA fH fG Z P o l ya yW : Nat → Int32} {pl : Nat → Int64} {y y2 : Int32} (h : md_by R n mk pd pd0 pO fP fA fH fG Z P o l ya yW pl) (ho : fr_o pO fP p ≠ 16) : md_by R n mk pd pd0 pO fP fA fH (upd fG p y) Z P o l ya (upd yW p y2) pl := by
  obtain ⟨h1, h2⟩ := h
  have ne : ∀ f, fr_o pO fP f = 16 → f ≠ p := fun f hf e => ho (by rw [← e]; exact hf)
  refine ⟨fun f hf o16 hA => ?_, h2⟩
  rw [pk_un (ne f o16), pk_un (ne f o16)]
  exact h1 f hf o16 hA
theorem md_w3_G {pO fP fA fG : Nat → Int32} {n p : Nat} {y : Int32} (ho : fr_o pO fP p ≠ 16) : vv_sm (md_w3 pO fP fA (upd fG p y)) n = vv_sm (md_w3 pO fP fA fG) n := by
  apply vv_sm_c
  intro f _
  unfold md_w3
  by_cases e : f = p
  · subst e
    rw [if_neg (fun z => ho z.1), if_neg (fun z => ho z.1)]
  · rw [pk_un e]
theorem md_w3_A {pO fP fA fG : Nat → Int32} {n p : Nat} {y : Int32} (ho : fr_o pO fP p ≠ 16) : vv_sm (md_w3 pO fP (upd fA p y) fG) n = vv_sm (md_w3 pO fP fA fG) n := by
  apply vv_sm_c
  intro f _
  unfold md_w3
  by_cases e : f = p
  · subst e
    rw [if_neg (fun z => ho z.1), if_neg (fun z => ho z.1)]
  · rw [pk_un e]
theorem md_w3_n {pO fP fA fG : Nat → Int32} {n p : Nat} {q : Int32} (hp : p < n) (ho : fr_o pO fP p ≠ 16) : vv_sm (md_w3 pO (upd fP n q) (upd (upd fA n (-1)) p (nI n)) (upd fG n 0)) (n + 1) = vv_sm (md_w3 pO fP fA fG) n := by
  have e1 : vv_sm (md_w3 pO (upd fP n q) (upd (upd fA n (-1)) p (nI n)) (upd fG n 0)) n = vv_sm (md_w3 pO fP fA fG) n := by
    apply vv_sm_c
    intro f hf
    have hfn : f ≠ n := by omega
    have eo : fr_o pO (upd fP n q) f = fr_o pO fP f := by unfold fr_o; rw [pk_un hfn]
    unfold md_w3
    rw [eo, pk_un hfn]
    by_cases e : f = p
    · subst e
      rw [if_neg (fun z => ho z.1), if_neg (fun z => ho z.1)]
    · rw [pk_un e, pk_un hfn]
  have e2 : md_w3 pO (upd fP n q) (upd (upd fA n (-1)) p (nI n)) (upd fG n 0) n = 0 := by
    unfold md_w3
    rw [pk_un (show n ≠ p by omega), pk_us, if_neg (fun z => z.2.1 rfl)]
  rw [vv_sm, e1, e2, Nat.add_zero]
end
section
/-! ===== a filter within is applied ===== -/
theorem rl_R00 {V : Nat → Prop} {K N Z D Im W P : Nat → Int32} {mk : Nat} {o l kS d : Nat → Int32} {pl : Nat → Int64} (hx : vv_ox V K N Z D Im W P) (hb : rl_b V K N) : vv_R V K N Z D P mk o l kS d pl 0 0 := by
  rw [yy_0]
  exact rl_R0 hx hb (κ := 0) (by omega)
/-- the state of a frame that was just made -/
theorem fr_S0 {R : Int32 → Int64 → Prop} {E : Int32 → Nat → Prop} {Dp : Int32 → Nat → Nat → Prop} {oq st : Nat} {x fi : Int32} {yL : Int64} (hR : R 0 0) (hE : E fi 0) (h18 : oq = 18 → ∃ m, m < 10 ∧ x = nI m) : fr_S R E Dp oq x st fi 0 (-1) (-1) 0 0 (-1) (-1) 0 0 yL := by
  refine ⟨fun _ => ⟨rfl, rfl, Or.inl rfl, fun _ _ _ => rfl⟩, fun _ => ⟨0, rfl, rfl, hE⟩, fun _ => Or.inl ⟨rfl, rfl⟩, fun _ _ => ⟨rfl, rfl⟩, fun _ => Or.inl ⟨rfl, rfl, rfl⟩, fun e => ?_, fun _ _ => ⟨rfl, Or.inl ⟨rfl, rfl⟩⟩, fun _ _ => hR, fun _ => Or.inl ⟨rfl, rfl⟩, fun _ => ⟨rfl, Or.inl ⟨rfl, rfl, rfl, rfl, rfl, hR⟩⟩⟩
  obtain ⟨m, m1, m2⟩ := h18 e
  exact ⟨0, m, rfl, rfl, m2, by omega, m1⟩
theorem md_w1_n {fO fA fG fO' : Nat → Int32} {n p : Nat} (hp : p < n) (eO : ∀ f, f ≠ p → f ≠ n → fO' f = fO f) (eOn : fO' n = -1) : vv_sm (md_w1 fO' (upd (upd fA n (-1)) p (nI n)) (upd fG n 0)) (n + 1) ≤ vv_sm (md_w1 fO fA fG) n + 2 := by
  rw [ct_n]
  have h := ct_u (w := md_w1 fO fA fG) (w' := md_w1 fO' (upd (upd fA n (-1)) p (nI n)) (upd fG n 0)) hp (fun f hf hne => by
    unfold md_w1
    rw [pk_un hne, pk_un (show f ≠ n by omega), pk_un (show f ≠ n by omega), eO f hne (by omega)])
  have h1 : md_w1 fO' (upd (upd fA n (-1)) p (nI n)) (upd fG n 0) n = 1 := by
    unfold md_w1
    rw [pk_us, pk_un (show n ≠ p by omega), pk_us, eOn, if_pos rfl, if_pos rfl]
  have h2 : md_w1 fO' (upd (upd fA n (-1)) p (nI n)) (upd fG n 0) p ≤ md_w1 fO fA fG p + 1 := by
    unfold md_w1
    rw [pk_un (show p ≠ n by omega)]
    split <;> split <;> split <;> omega
  omega
theorem md_w2_n {fA fG : Nat → Int32} {n p : Nat} (hp : p < n) (hn : n < 600) : vv_sm (md_w2 (upd (upd fA n (-1)) p (nI n)) (upd fG n 0)) (n + 1) ≤ vv_sm (md_w2 fA fG) n + 1 := by
  rw [ct_n]
  have h := ct_u (w := md_w2 fA fG) (w' := md_w2 (upd (upd fA n (-1)) p (nI n)) (upd fG n 0)) hp (fun f hf hne => by
    unfold md_w2
    rw [pk_un hne, pk_un (show f ≠ n by omega), pk_un (show f ≠ n by omega)])
  have h1 : md_w2 (upd (upd fA n (-1)) p (nI n)) (upd fG n 0) n ≤ 1 := by
    unfold md_w2
    split <;> omega
  have h2 : md_w2 (upd (upd fA n (-1)) p (nI n)) (upd fG n 0) p = 0 := by
    unfold md_w2
    rw [pk_us, if_neg (fun w => fr_n1 hn w.2)]
  omega
end
section
/-! ===== a value more: both heaps grow ===== -/
section
variable {V V' : Nat → Prop} {K N Z D Im W P K' N' Z' D' Im' W' P' : Nat → Int32} {o l kS d o' l' kS' d' : Nat → Int32} {pl pl' : Nat → Int64} {mk pd mk' pd' rm rm' bo hs : Nat}
/-- X's heap changes at slot hs alone, which may become valid -/
def gr_X (V V' : Nat → Prop) (hs : Nat) (K N Z D Im W P K' N' Z' D' Im' W' P' : Nat → Int32) : Prop :=
  ¬ V hs ∧ 53 ≤ hs ∧ (∀ s, V s → V' s) ∧ (∀ s, V' s → V s ∨ s = hs) ∧ vv_ox V' K' N' Z' D' Im' W' P' ∧
  ∀ t, t ≠ hs → K' t = K t ∧ N' t = N t ∧ Z' t = Z t ∧ D' t = D t ∧ Im' t = Im t ∧ W' t = W t ∧ ∀ i, i < 10 → P' (t * 10 + i) = P (t * 10 + i)
theorem gr_ne (h : gr_X V V' hs K N Z D Im W P K' N' Z' D' Im' W' P') {s : Nat} (hs' : V s) : s ≠ hs := fun e => h.1 (by rw [← e]; exact hs')
theorem gr_eq (h : gr_X V V' hs K N Z D Im W P K' N' Z' D' Im' W' P') : vv_eq V K N Z D Im W P K' N' Z' D' Im' W' P' := fun s hs' => h.2.2.2.2.2 s (gr_ne h hs')
theorem gr_hx {K0 N0 Z0 D0 I0 W0 P0 : Nat → Int32} (h : gr_X V V' hs K N Z D Im W P K' N' Z' D' Im' W' P') (hh : md_hx V bo rm K N Z D Im W P K0 N0 Z0 D0 I0 W0 P0) (hr : rm ≤ rm') (hs' : V' hs → hs < 53 + rm') : md_hx V' bo rm' K' N' Z' D' Im' W' P' K0 N0 Z0 D0 I0 W0 P0 := by
  obtain ⟨k1, k2, k3, k4, k5⟩ := hh
  have h0 := h
  obtain ⟨h1, h2, h3, h4, h5, h6⟩ := h
  refine ⟨h5, fun s hs2 => ?_, k3, rl_b_up k4 h3 (fun s hs2 => ⟨(gr_eq h0 s hs2).1, (gr_eq h0 s hs2).2.1⟩), fun s hs2 => ?_⟩
  · rcases h4 s hs2 with z | z
    · have := k2 s z
      exact ⟨this.1, by omega⟩
    · subst z
      exact ⟨Or.inr h2, hs' hs2⟩
  · obtain ⟨f1, f2, f3, f4, f5, f6, f7⟩ := k5 s hs2
    have hs3 : s < 53 := hs2
    obtain ⟨e1, e2, e3, e4, e5, e6, e7⟩ := h6 s (by omega)
    exact ⟨e1.trans f1, e2.trans f2, e3.trans f3, e4.trans f4, e5.trans f5, e6.trans f6, fun i hi => (e7 i hi).trans (f7 i hi)⟩
/-- the arrays that 'all' fills stay as they are, if hs is none of them -/
theorem gr_bx {n : Nat} {pO fP fA fH fG : Nat → Int32} (h : gr_X V V' hs K N Z D Im W P K' N' Z' D' Im' W' P') (hb : md_bx V rm n pO fP fA fH fG K N Z D P) (hr : rm ≤ rm')
    (hne : ∀ f, f < n → fr_o pO fP f = 16 → fA f ≠ -1 → fG f = 0 → fH f ≠ nI hs) : md_bx V' rm' n pO fP fA fH fG K' N' Z' D' P' := by
  have h0 := h
  obtain ⟨h1, h2, h3, h4, h5, h6⟩ := h
  obtain ⟨b1, b2⟩ := hb
  refine ⟨fun f hf o16 hA hG => ?_, b2⟩
  obtain ⟨x, z, a1, a2, a3, a4, a5, a6, a7, a8, a9⟩ := b1 f hf o16 hA hG
  have hx : x ≠ hs := fun e => hne f hf o16 hA hG (by rw [a1, e])
  obtain ⟨e1, e2, e3, e4, e5, e6, e7⟩ := h6 x hx
  refine ⟨x, z, a1, a2, by omega, fun w => (h4 x w).elim a4 hx, e1.trans a5, e2.trans a6, e3.trans a7, a8, fun i hi => ?_⟩
  obtain ⟨c, e, c1, c2, c3, c4⟩ := a9 i hi
  exact ⟨c, e, (e7 i (by omega)).trans c1, h3 c c2, (gr_eq h0 c c2).2.2.2.1.trans c3, c4⟩
/-- Y's heap grows -/
def gr_Y (mk pd mk' pd' : Nat) (o l kS d o' l' kS' d' : Nat → Int32) (pl pl' : Nat → Int64) : Prop :=
  mk ≤ mk' ∧ pd ≤ pd' ∧ vv_cy mk' pd' o' l' pl' ∧ (∀ j, j < mk → o' j = o j ∧ l' j = l j ∧ kS' j = kS j ∧ d' j = d j) ∧ ∀ i, i < pd → pl' i = pl i
theorem gr_R (hx : vv_ox V K N Z D Im W P) (hy : vv_cy mk pd o l pl) (h : gr_X V V' hs K N Z D Im W P K' N' Z' D' Im' W' P') (g : gr_Y mk pd mk' pd' o l kS d o' l' kS' d' pl pl') : ∀ s w, vv_R V K N Z D P mk o l kS d pl s w → vv_R V' K' N' Z' D' P' mk' o' l' kS' d' pl' s w := by
  obtain ⟨g1, g2, g3, g4, g5⟩ := g
  intro s w hR
  refine vv_R_up hx hy (fun s hs' => ⟨h.2.2.1 s hs', vv_eq_x (gr_eq h) s hs'⟩) g1 (fun j hj => ?_) hR
  obtain ⟨e1, e2, e3, e4⟩ := g4 j hj
  exact ⟨e1, e2, e3, e4, fun a b _ _ _ hab i hi => g5 _ (by omega)⟩
theorem gr_ea (h : gr_X V V' hs K N Z D Im W P K' N' Z' D' Im' W' P') {s : Int32} {w : Int64} (hR : vv_R V K N Z D P mk o l kS d pl s w) (g : Nat) (he : md_ea Z s g) : md_ea Z' s g := by
  obtain ⟨n, e1, e2, e3, _⟩ := hR
  unfold md_ea at he ⊢
  have en : s.toNatClampNeg = n := by rw [e1, nI_clamp (by omega)]
  rw [en] at he ⊢
  rw [(gr_eq h n e3).2.2.1]
  exact he
theorem gr_path (hx : vv_ox V K N Z D Im W P) (h : gr_X V V' hs K N Z D Im W P K' N' Z' D' Im' W' P') : ∀ (p : List Nat) (s : Nat), V s → dp_ok Z P p s → dp_ok Z' P' p s ∧ dp_ix W' P' p s = dp_ix W P p s
  | [], _, _, _ => ⟨trivial, rfl⟩
  | i :: p, s, hs', hp => by
    obtain ⟨z, hz, ez, hc⟩ := vv_ox_z hx hs'
    obtain ⟨_, _, e3, _, _, _, e7⟩ := gr_eq h s hs'
    obtain ⟨h1, h2⟩ := hp
    have h1' := h1
    rw [ez, nI_clamp (by omega)] at h1'
    obtain ⟨c, c1, c2, c3⟩ := hc i h1'
    have ec : dp_ch P s i = c := by rw [dp_ch, c1, nI_clamp (by omega)]
    have ec' : dp_ch P' s i = c := by rw [dp_ch, e7 i (by omega), c1, nI_clamp (by omega)]
    rw [ec] at h2
    obtain ⟨r1, r2⟩ := gr_path hx h p c c3 h2
    refine ⟨⟨by rw [e3]; exact h1, by rw [ec']; exact r1⟩, ?_⟩
    rw [dp_ix, dp_ix, ec, ec', r2]
    congr 2
    apply vv_sm_c
    intro j hj
    obtain ⟨cj, j1, j2, j3⟩ := hc j (by omega)
    unfold dp_w dp_ch
    rw [e7 j (by omega), j1, nI_clamp (by omega), (gr_eq h cj j3).2.2.2.2.2.1]
theorem gr_dp (hx : vv_ox V K N Z D Im W P) (h : gr_X V V' hs K N Z D Im W P K' N' Z' D' Im' W' P') {s : Int32} {w : Int64} (hR : vv_R V K N Z D P mk o l kS d pl s w) (g way : Nat) (he : md_dp Z W P s g way) : md_dp Z' W' P' s g way := by
  obtain ⟨n, e1, e2, e3, _⟩ := hR
  obtain ⟨p, p1, p2, p3, p4⟩ := he
  have en : s.toNatClampNeg = n := by rw [e1, nI_clamp (by omega)]
  rw [en] at p3 p4
  obtain ⟨r1, r2⟩ := gr_path hx h p n e3 p3
  refine ⟨p, p1, p2, ?_, ?_⟩
  · rw [en]; exact r1
  · rw [en, r2]; exact p4
theorem gr_hy {mk0 pd0 : Nat} {o0 l0 k0 d0 : Nat → Int32} {pl0 : Nat → Int64} (g : gr_Y mk pd mk' pd' o l kS d o' l' kS' d' pl pl') (hh : md_hy rm mk pd mk0 pd0 o l kS d pl o0 l0 k0 d0 pl0) (hm : mk' ≤ 40 + rm') (hp : pd' ≤ 400 + 10 * rm') : md_hy rm' mk' pd' mk0 pd0 o' l' kS' d' pl' o0 l0 k0 d0 pl0 := by
  obtain ⟨g1, g2, g3, g4, g5⟩ := g
  obtain ⟨c1, c2, c3, c4, c5, c6, c7⟩ := hh
  refine ⟨g3, by omega, hm, by omega, hp, fun j hj => ?_, fun i hi => (g5 i (by omega)).trans (c7 i hi)⟩
  obtain ⟨e1, e2, e3, e4⟩ := g4 j (by omega)
  obtain ⟨f1, f2, f3, f4⟩ := c6 j hj
  exact ⟨e1.trans f1, e2.trans f2, e3.trans f3, e4.trans f4⟩
/-- the cells that 'all' has taken, when a composite comes behind them -/
theorem gr_by {n pd0 : Nat} {pO fP fA fH fG ya yW : Nat → Int32} {R R' : Int32 → Int64 → Prop} (h : gr_X V V' hs K N Z D Im W P K' N' Z' D' Im' W' P') (g : gr_Y mk pd mk' pd' o l kS d o' l' kS' d' pl pl') (hRR : ∀ s w, R s w → R' s w) (hb : md_by R n mk pd pd0 pO fP fA fH fG Z P o l ya yW pl) (hcy : vv_cy mk pd o l pl)
    (hH : ∀ f, f < n → fr_o pO fP f = 16 → fA f ≠ -1 → fG f = 0 → ∃ x, fH f = nI x ∧ x < 653 ∧ x ≠ hs) (hnew : ∀ j x, mk ≤ j → j < mk' → o' j = nI x → x < 2 ^ 31 → pd ≤ x) : md_by R' n mk' pd' pd0 pO fP fA fH fG Z' P' o' l' ya yW pl' := by
  obtain ⟨g1, g2, g3, g4, g5⟩ := g
  obtain ⟨b1, b2⟩ := hb
  refine ⟨fun f hf o16 hA => ?_, b2⟩
  obtain ⟨a, w, a1, a2, a3, a4, a5, a6, a7⟩ := b1 f hf o16 hA
  refine ⟨a, w, a1, a2, a3, a4, by omega, fun j x y hj ex ey hy10 hxy => ?_, fun hG => ?_⟩
  · by_cases hjm : j < mk
    · obtain ⟨e1, e2, _⟩ := g4 j hjm
      obtain ⟨a', b', q1, q2, q3, q4, _⟩ := hcy.2.2 j hjm
      have hp8 := hcy.2.1
      have g8 := g3.2.1
      have ea : a' = x := (nI_eq (by omega) (by omega)).mp (q1.symm.trans (e1.symm.trans ex))
      have eb : b' = y := (nI_eq (by omega) (by omega)).mp (q2.symm.trans (e2.symm.trans ey))
      subst ea eb
      exact a6 j a' b' hjm q1 q2 q3 q4
    · have g8 := g3.2.1
      have := hnew j x (by omega) hj ex (by omega)
      exact Or.inr (by omega)
  · obtain ⟨x, x1, x2, x3⟩ := hH f hf o16 hA hG
    obtain ⟨c1, c2⟩ := a7 hG
    rw [x1, nI_clamp (by omega)] at c1 c2 ⊢
    obtain ⟨_, _, e3, _, _, _, e7⟩ := h.2.2.2.2.2 x x3
    refine ⟨e3.trans c1, fun i hi => ?_⟩
    rw [e7 i (by omega), g5 _ (by omega)]
    exact hRR _ _ (c2 i hi)
/-- every frame keeps its state -/
theorem gr_S (hx : vv_ox V K N Z D Im W P) (hy : vv_cy mk pd o l pl) (h : gr_X V V' hs K N Z D Im W P K' N' Z' D' Im' W' P') (g : gr_Y mk pd mk' pd' o l kS d o' l' kS' d' pl pl') {oq st st' : Nat} {x fi gi ac ou he ya y1 y2 yW : Int32} {yi yK yL : Int64} (hst : st ≤ st') (hR : vv_R V K N Z D P mk o l kS d pl fi yi)
    (hS : fr_S (vv_R V K N Z D P mk o l kS d pl) (md_ea Z) (md_dp Z W P) oq x st fi gi ac ou he ya y1 y2 yW yK yL) : fr_S (vv_R V' K' N' Z' D' P' mk' o' l' kS' d' pl') (md_ea Z') (md_dp Z' W' P') oq x st' fi gi ac ou he ya y1 y2 yW yK yL :=
  fr_S_up (gr_R hx hy h g) (fun n w => gr_ea h hR n w) (fun n m w => gr_dp hx h hR n m w) hst hS
end
end
section
/-! ===== the lockstep, for all states of Y at once ===== -/
/-- X's slots in its frames are whole values -/
def mv_X (V : Nat → Prop) (n : Nat) (xsi xan : Int32) (pO fP fI fH fN : Nat → Int32) : Prop :=
  (xsi = 1 → ∃ s, xan = nI s ∧ V s) ∧ ∀ f, f < n → (∃ s, fI f = nI s ∧ V s) ∧ (fr_o pO fP f ≠ 16 → ∃ s, fH f = nI s ∧ V s) ∧ ∀ x, x < 3 → ∃ s, fN (f * 3 + x) = nI s ∧ V s
/-- Y's runs beside X's: whoever shows Y's loop at every like state has shown the run -/
def rm_M (V : Nat → Prop) (pa : List Nat) (g np n c rm a st : Nat) (xsi xan : Int32) (K N Z D W P pO pX pI fP fI fO fA fH fG fN aS : Nat → Int32) (mk0 pd0 : Nat) (v0 : SY) : Prop :=
  match v0 with
  | (yma0, ypo0, yhe0, yvm0, yin0, yfi0, yde0, yap0, yas0, yto0, yan0, yco0, yti0, yna0, yac0, yen0, yic0, o0, l0, kS0, d0, pl0, ys0, yk0, yn0, yp0, yf0, yo0, yi0, yw0, ya0, y10, y20, yK0, yW0, yL0, yq0, nm0, nv0, no0, yA0, lf0, rt0, iK0, iN0) =>
    (xsi = 0 → ∀ post : SY → Prop, (∃ m, ∀ (mk pd nd : Nat) (yma ypo yap yas yto : Int32) (yan : Int64) (yco yti yna yac yen : Int32) (o l kS d : Nat → Int32) (pl : Nat → Int64) (yo : Nat → Int32) (yi : Nat → Int64) (yw ya y1 y2 : Nat → Int32) (yK : Nat → Int64) (yW : Nat → Int32) (yL : Nat → Int64) (yq nm : Nat → Int32) (nv : Nat → Int64) (no : Nat → Int32) (yA lf rt : Nat → Int64),
      md_Y V pa g np n c rm a st mk pd nd mk0 pd0 xsi xan K N Z D W P pO pX pI fP fI fO fA fH fG fN aS yma ypo yap yas yto yan yco yti yna yac yen o l kS d pl yk0 yn0 yp0 yo yi yw ya y1 y2 yK yW yL yq nm nv no yA o0 l0 kS0 d0 pl0 →
      wY_work_79 post (nI mk0) (nI pd0) m 1 yma ypo yhe0 yvm0 yin0 yfi0 yde0 yap yas yto yan yco yti yna yac yen yic0 o l kS d pl ys0 yk0 yn0 yp0 yf0 yo yi yw ya y1 y2 yK yW yL yq nm nv no yA lf rt iK0 iN0) → wpY_work post v0) ∧
    (xsi ≠ 0 → ∀ post : SY → Prop, (∃ m, ∀ (mk pd nd : Nat) (yma ypo yap yas yto : Int32) (yan : Int64) (yco yti yna yac yen : Int32) (o l kS d : Nat → Int32) (pl : Nat → Int64) (yo : Nat → Int32) (yi : Nat → Int64) (yw ya y1 y2 : Nat → Int32) (yK : Nat → Int64) (yW : Nat → Int32) (yL : Nat → Int64) (yq nm : Nat → Int32) (nv : Nat → Int64) (no : Nat → Int32) (yA lf rt : Nat → Int64),
      md_Y V pa g np n c rm a st mk pd nd mk0 pd0 xsi xan K N Z D W P pO pX pI fP fI fO fA fH fG fN aS yma ypo yap yas yto yan yco yti yna yac yen o l kS d pl yk0 yn0 yp0 yo yi yw ya y1 y2 yK yW yL yq nm nv no yA o0 l0 kS0 d0 pl0 →
      wY_work_146 post (wY_work_79 post (nI mk0) (nI pd0) m) (nI mk0) (nI pd0) 0 yma ypo yhe0 yvm0 yin0 yfi0 yde0 yap yas yto yan yco yti yna yac yen yic0 o l kS d pl ys0 yk0 yn0 yp0 yf0 yo yi yw ya y1 y2 yK yW yL yq nm nv no yA lf rt iK0 iN0) → wpY_work post v0)
def rm_I (T : List Nat → Option vv_L) (nf bo np : Nat) (K0 N0 Z0 D0 I0 W0 P0 : Nat → Int32) (st : Nat) (u : SX) : Prop :=
  match u with
  | (xst, xow, xin, xpa, xfi, xfr, xno, xsi, xan, xkn, xen, xco, xrm, xac, K, N, Z, D, Im, W, P, vS, pO, pX, pI, fS, fP, fI, fU, fR, fO, fA, fH, fG, fN, aS, qL, qR, qP) => ∃ (V al : Nat → Prop) (g : Nat) (pa : List Nat) (n c rm a : Nat), md_X V al g pa bo np n c rm a st xfr xno xsi xen xco xrm xac K N Z D Im W P K0 N0 Z0 D0 I0 W0 P0 pO pX fP fU fR fO fA fH fG ∧ mv_X V n xsi xan pO fP fI fH fN ∧
    ∀ (mk0 pd0 : Nat) (v0 : SY), kn_F T np nf pO pX pI fS mk0 pd0 v0 → rm_M V pa g np n c rm a st xsi xan K N Z D W P pO pX pI fP fI fO fA fH fG fN aS mk0 pd0 v0
/-- Y's runs, ended as X's -/
def rm_N (V : Nat → Prop) (a : Nat) (xen xco xac : Int32) (K N Z D P aS : Nat → Int32) (mk0 pd0 : Nat) (v0 : SY) : Prop :=
  match v0 with
  | (yma0, ypo0, yhe0, yvm0, yin0, yfi0, yde0, yap0, yas0, yto0, yan0, yco0, yti0, yna0, yac0, yen0, yic0, o0, l0, kS0, d0, pl0, ys0, yk0, yn0, yp0, yf0, yo0, yi0, yw0, ya0, y10, y20, yK0, yW0, yL0, yq0, nm0, nv0, no0, yA0, lf0, rt0, iK0, iN0) => ∀ post : SY → Prop, (∀ (mk pd : Nat) (yma ypo yap yas yto : Int32) (yan : Int64) (yco yti yna yac yen : Int32) (o l kS d : Nat → Int32) (pl : Nat → Int64) (yo : Nat → Int32) (yi : Nat → Int64) (yw ya y1 y2 : Nat → Int32) (yK : Nat → Int64) (yW : Nat → Int32) (yL : Nat → Int64) (yq nm : Nat → Int32) (nv : Nat → Int64) (no : Nat → Int32) (yA lf rt : Nat → Int64),
    yen = xen ∧ yco = xco ∧ yac = xac ∧ vv_cy mk pd o l pl ∧ (∀ j, j < mk0 → o j = o0 j ∧ l j = l0 j ∧ kS j = kS0 j ∧ d j = d0 j) ∧ (∀ i, i < pd0 → pl i = pl0 i) ∧ (∀ i, i < a → vv_R V K N Z D P mk o l kS d pl (aS i) (yA i)) →
    post ((nI mk0), (nI pd0), yhe0, yvm0, yin0, yfi0, yde0, yap, yas, yto, yan, yco, yti, yna, yac, yen, yic0, o, l, kS, d, pl, ys0, yk0, yn0, yp0, yf0, yo, yi, yw, ya, y1, y2, yK, yW, yL, yq, nm, nv, no, yA, lf, rt, iK0, iN0)) → wpY_work post v0
def rm_E (T : List Nat → Option vv_L) (nf bo np : Nat) (K0 N0 Z0 D0 I0 W0 P0 : Nat → Int32) (u : SX) : Prop :=
  match u with
  | (xst, xow, xin, xpa, xfi, xfr, xno, xsi, xan, xkn, xen, xco, xrm, xac, K, N, Z, D, Im, W, P, vS, pO, pX, pI, fS, fP, fI, fU, fR, fO, fA, fH, fG, fN, aS, qL, qR, qP) => ¬ xen = -1 ∧ ∃ (V : Nat → Prop) (a : Nat), vv_ox V K N Z D Im W P ∧ (∀ s, V s → s < bo ∨ 53 ≤ s) ∧ vv_eq (fun s => s < 53) K0 N0 Z0 D0 I0 W0 P0 K N Z D Im W P ∧ xac = nI a ∧ a ≤ 20 ∧
    ∀ (mk0 pd0 : Nat) (v0 : SY), kn_F T np nf pO pX pI fS mk0 pd0 v0 → rm_N V a xen xco xac K N Z D P aS mk0 pd0 v0
/-! one turn of Y's loop -/
theorem ct_F {yma ypo yhe yvm : Int32} {yin : Int64} {yfi yde yap yas yto : Int32} {yan : Int64} {yco yti yna yac yen yic : Int32} {o l kS d : Nat → Int32} {pl ys : Nat → Int64} {yk yn yp yf yo : Nat → Int32} {yi : Nat → Int64} {yw ya y1 y2 : Nat → Int32} {yK : Nat → Int64} {yW : Nat → Int32} {yL : Nat → Int64} {yq nm : Nat → Int32} {nv : Nat → Int64} {no : Nat → Int32} {yA lf rt : Nat → Int64} {iK iN : Nat → Int32} {post : SY → Prop} {mk0 pd0 m a g : Nat} (en : yen = -1000000004) (ea : yas = nI (a + 1)) (ha : a < 600) (eq : yq a = nI g)
    (hs : wpY_start (fun u => match u with | (yma', ypo', yhe', yvm', yin', yfi', yde', yap', yas', yto', yan', yco', yti', yna', yac', yen', yic', o', l', kS', d', pl', ys', yk', yn', yp', yf', yo', yi', yw', ya', y1', y2', yK', yW', yL', yq', nm', nv', no', yA', lf', rt', iK', iN') => wY_work_132 post (wY_work_79 post (nI mk0) (nI pd0) m) (nI mk0) (nI pd0) yas yma' ypo' yhe' yvm' yin' yfi' yde' yap' yas' yto' yan' yco' yti' yna' yac' yen' yic' o' l' kS' d' pl' ys' yk' yn' yp' yf' yo' yi' yw' ya' y1' y2' yK' yW' yL' yq' nm' nv' no' yA' lf' rt' iK' iN') (yma, ypo, yhe, yvm, yin, yfi, yde, yap, yas, yto, yan, yco, yti, yna, yac, yen, yic, o, l, kS, d, pl, ys, yk, yn, yp, yf, yo, yi, yw, ya, y1, y2, yK, yW, yL, yq, nm, nv, no, yA, lf, rt, iK, iN) (nI g)) : wY_work_79 post (nI mk0) (nI pd0) (m + 1) 1 yma ypo yhe yvm yin yfi yde yap yas yto yan yco yti yna yac yen yic o l kS d pl ys yk yn yp yf yo yi yw ya y1 y2 yK yW yL yq nm nv no yA lf rt iK iN := by
  unfold wY_work_79
  rw [show yas - 1 = nI a by rw [ea, cr_as], nI_clamp (show a < 2 ^ 31 by omega), eq]
  exact br_t en (br_f (by decide) ⟨vp_in_nI (by omega) (by omega), hs⟩)
theorem ct_T {yma ypo yhe yvm : Int32} {yin : Int64} {yfi yde yap yas yto : Int32} {yan : Int64} {yco yti yna yac yen yic : Int32} {o l kS d : Nat → Int32} {pl ys : Nat → Int64} {yk yn yp yf yo : Nat → Int32} {yi : Nat → Int64} {yw ya y1 y2 : Nat → Int32} {yK : Nat → Int64} {yW : Nat → Int32} {yL : Nat → Int64} {yq nm : Nat → Int32} {nv : Nat → Int64} {no : Nat → Int32} {yA lf rt : Nat → Int64} {iK iN : Nat → Int32} {post : SY → Prop} {mk0 pd0 m a g : Nat} (en : yen = -1000000004) (ht : yti = 0) (ea : yas = nI (a + 1)) (ha : a < 600) (eq : yq a = nI g)
    (hs : wpY_goOn (fun u => match u with | (yma', ypo', yhe', yvm', yin', yfi', yde', yap', yas', yto', yan', yco', yti', yna', yac', yen', yic', o', l', kS', d', pl', ys', yk', yn', yp', yf', yo', yi', yw', ya', y1', y2', yK', yW', yL', yq', nm', nv', no', yA', lf', rt', iK', iN') => wY_work_132 post (wY_work_79 post (nI mk0) (nI pd0) m) (nI mk0) (nI pd0) yas yma' ypo' yhe' yvm' yin' yfi' yde' yap' yas' yto' yan' yco' yti' yna' yac' yen' yic' o' l' kS' d' pl' ys' yk' yn' yp' yf' yo' yi' yw' ya' y1' y2' yK' yW' yL' yq' nm' nv' no' yA' lf' rt' iK' iN') (yma, ypo, yhe, yvm, yin, yfi, yde, yap, yas, yto, yan, yco, yti, yna, yac, yen, yic, o, l, kS, d, pl, ys, yk, yn, yp, yf, yo, yi, yw, ya, y1, y2, yK, yW, yL, yq, nm, nv, no, yA, lf, rt, iK, iN) (nI g)) : wY_work_146 post (wY_work_79 post (nI mk0) (nI pd0) (m + 1)) (nI mk0) (nI pd0) 0 yma ypo yhe yvm yin yfi yde yap yas yto yan yco yti yna yac yen yic o l kS d pl ys yk yn yp yf yo yi yw ya y1 y2 yK yW yL yq nm nv no yA lf rt iK iN := by
  unfold wY_work_146
  refine br_t ht (br_f (by rw [ea]; exact nI_ne0 (by omega) (by omega)) ?_)
  unfold wY_work_79
  rw [show yas - 1 = nI a by rw [ea, cr_as], nI_clamp (show a < 2 ^ 31 by omega), eq]
  exact br_t en (br_t rfl ⟨vp_in_nI (by omega) (by omega), hs⟩)
/-- behind the turn: told -/
theorem ct_told {yma ypo yhe yvm : Int32} {yin : Int64} {yfi yde yap yas yto : Int32} {yan : Int64} {yco yti yna yac yen yic : Int32} {o l kS d : Nat → Int32} {pl ys : Nat → Int64} {yk yn yp yf yo : Nat → Int32} {yi : Nat → Int64} {yw ya y1 y2 : Nat → Int32} {yK : Nat → Int64} {yW : Nat → Int32} {yL : Nat → Int64} {yq nm : Nat → Int32} {nv : Nat → Int64} {no : Nat → Int32} {yA lf rt : Nat → Int64} {iK iN : Nat → Int32} {post : SY → Prop} {mk0 pd0 m a : Nat} {b : Int32} (eb : b = nI (a + 1)) (ha : a < 600) (ea : yas = nI a) (h : wY_work_146 post (wY_work_79 post (nI mk0) (nI pd0) m) (nI mk0) (nI pd0) 0 yma ypo yhe yvm yin yfi yde yap yas yto yan yco yti yna yac yen yic o l kS d pl ys yk yn yp yf yo yi yw ya y1 y2 yK yW yL yq nm nv no yA lf rt iK iN) : wY_work_132 post (wY_work_79 post (nI mk0) (nI pd0) m) (nI mk0) (nI pd0) b yma ypo yhe yvm yin yfi yde yap yas yto yan yco yti yna yac yen yic o l kS d pl ys yk yn yp yf yo yi yw ya y1 y2 yK yW yL yq nm nv no yA lf rt iK iN := by
  unfold wY_work_132
  exact br_t (by rw [eb, ea]; exact nI_le (by omega) (by omega)) h
/-- behind the turn: another is asked -/
theorem ct_asked {yma ypo yhe yvm : Int32} {yin : Int64} {yfi yde yap yas yto : Int32} {yan : Int64} {yco yti yna yac yen yic : Int32} {o l kS d : Nat → Int32} {pl ys : Nat → Int64} {yk yn yp yf yo : Nat → Int32} {yi : Nat → Int64} {yw ya y1 y2 : Nat → Int32} {yK : Nat → Int64} {yW : Nat → Int32} {yL : Nat → Int64} {yq nm : Nat → Int32} {nv : Nat → Int64} {no : Nat → Int32} {yA lf rt : Nat → Int64} {iK iN : Nat → Int32} {post : SY → Prop} {mk0 pd0 m a : Nat} {b : Int32} (eb : b = nI (a + 1)) (ha : a < 600) (ea : yas = nI (a + 2)) (ht : yti = 0) (h : wY_work_79 post (nI mk0) (nI pd0) m 1 yma ypo yhe yvm yin yfi yde yap yas yto yan yco yti yna yac yen yic o l kS d pl ys yk yn yp yf yo yi yw ya y1 y2 yK yW yL yq nm nv no yA lf rt iK iN) : wY_work_132 post (wY_work_79 post (nI mk0) (nI pd0) m) (nI mk0) (nI pd0) b yma ypo yhe yvm yin yfi yde yap yas yto yan yco yti yna yac yen yic o l kS d pl ys yk yn yp yf yo yi yw ya y1 y2 yK yW yL yq nm nv no yA lf rt iK iN := by
  unfold wY_work_132
  refine br_f (by rw [eb, ea]; exact nI_ge (by omega) (by omega)) ?_
  unfold wY_work_146
  exact br_t ht (br_f (by rw [ea]; exact nI_ne0 (by omega) (by omega)) h)
/-- behind the turn: too much was counted -/
theorem ct_tired {yma ypo yhe yvm : Int32} {yin : Int64} {yfi yde yap yas yto : Int32} {yan : Int64} {yco yti yna yac yen yic : Int32} {o l kS d : Nat → Int32} {pl ys : Nat → Int64} {yk yn yp yf yo : Nat → Int32} {yi : Nat → Int64} {yw ya y1 y2 : Nat → Int32} {yK : Nat → Int64} {yW : Nat → Int32} {yL : Nat → Int64} {yq nm : Nat → Int32} {nv : Nat → Int64} {no : Nat → Int32} {yA lf rt : Nat → Int64} {iK iN : Nat → Int32} {post : SY → Prop} {mk0 pd0 m : Nat} {b : Int32} (ht : yti = 1) (h : post ((nI mk0), (nI pd0), yhe, yvm, yin, yfi, yde, yap, yas, yto, yan, yco, yti, yna, yac, 3, yic, o, l, kS, d, pl, ys, yk, yn, yp, yf, yo, yi, yw, ya, y1, y2, yK, yW, yL, yq, nm, nv, no, yA, lf, rt, iK, iN)) : wY_work_132 post (wY_work_79 post (nI mk0) (nI pd0) (m + 1)) (nI mk0) (nI pd0) b yma ypo yhe yvm yin yfi yde yap yas yto yan yco yti yna yac yen yic o l kS d pl ys yk yn yp yf yo yi yw ya y1 y2 yK yW yL yq nm nv no yA lf rt iK iN := by
  have key : ∀ z : Int32, wY_work_146 post (wY_work_79 post (nI mk0) (nI pd0) (m + 1)) (nI mk0) (nI pd0) z yma ypo yhe yvm yin yfi yde yap yas yto yan yco yti yna yac yen yic o l kS d pl ys yk yn yp yf yo yi yw ya y1 y2 yK yW yL yq nm nv no yA lf rt iK iN := by
    intro z
    unfold wY_work_146
    refine br_f (by rw [ht]; decide) ?_
    unfold wY_work_79
    exact br_f (by decide) h
  unfold wY_work_132
  exact br_c (fun _ => key 0) (fun _ => key 1)
end
section
/-! ===== a leaf, asked: for all states of Y ===== -/
theorem rm_leaf {T : List Nat → Option vv_L} {nf bo np : Nat} {K0 N0 Z0 D0 I0 W0 P0 : Nat → Int32} {xst xow xin xpa xfi xfr xno xsi xan xkn xen xco xrm xac : Int32} {K N Z D Im W P vS pO pX pI fS fP fI fU fR fO fA fH fG fN aS qL qR qP : Nat → Int32} {st : Nat} {V al : Nat → Prop} {g : Nat} {pa : List Nat} {n c rm a : Nat}
    (hX : md_X V al g pa bo np n c rm a st xfr xno xsi xen xco xrm xac K N Z D Im W P K0 N0 Z0 D0 I0 W0 P0 pO pX fP fU fR fO fA fH fG) (hv : mv_X V n xsi xan pO fP fI fH fN)
    (hM : ∀ (mk0 pd0 : Nat) (v0 : SY), kn_F T np nf pO pX pI fS mk0 pd0 v0 → rm_M V pa g np n c rm a st xsi xan K N Z D W P pO pX pI fP fI fO fA fH fG fN aS mk0 pd0 v0) (es : xsi = 0) {k gv c' rm' sl : Nat} {s' xan' : Int32} {V' : Nat → Prop} {K' N' Z' D' Im' W' P' : Nat → Int32} (hk : 1 ≤ k) (hk2 : k ≤ 2) (hs' : s' = 1 ∨ s' = 2 ∨ s' = 3) (ho : fr_o pO fP g < 16) (hA : fA g = -1) (hgv : gv ≤ st + k) (hy0 : nI gv = 0 → fG g = 0)
    (hc' : c' = c ∨ c' = c + 1) (hc6 : c' ≤ 600) (hpay : s' = 1 → (fG g = 0 ∧ ¬ nI gv = 0 ∧ fO g = -1) ∨ c' = c + 1) (hrm : rm' = rm ∨ (rm' = rm + 1 ∧ fG g = 0 ∧ ¬ nI gv = 0))
    (hgr : gr_X V V' sl K N Z D Im W P K' N' Z' D' Im' W' P') (hhs : V' sl → sl < 53 + rm') (hhs2 : 53 + rm ≤ sl) (hsl : sl < 2 ^ 31)
    (hxv : s' = 1 → ∃ s, xan' = nI s ∧ V' s)
    (hYw : ∀ (mk0 pd0 mk pd nd : Nat) (yhe yvm : Int32) (yin : Int64) (yfi yde yic : Int32) (ys : Nat → Int64) (yk yn yp yf iK iN : Nat → Int32) (o0 l0 kS0 d0 : Nat → Int32) (pl0 : Nat → Int64) (yma ypo yap yas yto : Int32) (yan : Int64) (yco yti yna yac yen : Int32) (o l kS d : Nat → Int32) (pl : Nat → Int64) (yo : Nat → Int32) (yi : Nat → Int64) (yw ya y1 y2 : Nat → Int32) (yK : Nat → Int64) (yW : Nat → Int32) (yL : Nat → Int64) (yq nm : Nat → Int32) (nv : Nat → Int64) (no : Nat → Int32) (yA lf rt : Nat → Int64), md_Y V pa g np n c rm a st mk pd nd mk0 pd0 xsi xan K N Z D W P pO pX pI fP fI fO fA fH fG fN aS yma ypo yap yas yto yan yco yti yna yac yen o l kS d pl yk yn yp yo yi yw ya y1 y2 yK yW yL yq nm nv no yA o0 l0 kS0 d0 pl0 → ∀ Q : SY → Prop, (∀ (mk' pd' : Nat) (o' l' kS' d' : Nat → Int32) (pl' : Nat → Int64) (ya' yW' : Nat → Int32) (w : Int64), gr_Y mk pd mk' pd' o l kS d o' l' kS' d' pl pl' → mk' + rm ≤ mk + rm' → pd' ≤ 400 + 10 * rm' → (∀ j x, mk ≤ j → j < mk' → o' j = nI x → x < 2 ^ 31 → pd ≤ x) →
      (s' = 1 → vv_R V' K' N' Z' D' P' mk' o' l' kS' d' pl' xan' w) → (∀ f, f ≠ g → ya' f = ya f ∧ yW' f = yW f) →
      fr_S (vv_R V' K' N' Z' D' P' mk' o' l' kS' d' pl') (md_ea Z') (md_dp Z' W' P') (fr_o pO fP g) (pX (fP g).toNatClampNeg) (st + k) (fI g) (nI gv) (fA g) (fO g) (fH g) (ya' g) (y1 g) (y2 g) (yW' g) (yK g) (yL g) →
      Q ((nI mk'), (nI pd'), yhe, yvm, yin, yfi, yde, yap, (nI pa.length), (s' - 1), w, (nI c'), yti, yna, yac, yen, yic, o', l', kS', d', pl', ys, yk, yn, yp, yf, yo, yi, yw, ya', y1, y2, yK, yW', yL, yq, nm, nv, no, yA, lf, rt, iK, iN)) → wpY_start Q (yma, ypo, yhe, yvm, yin, yfi, yde, yap, yas, yto, yan, yco, yti, yna, yac, yen, yic, o, l, kS, d, pl, ys, yk, yn, yp, yf, yo, yi, yw, ya, y1, y2, yK, yW, yL, yq, nm, nv, no, yA, lf, rt, iK, iN) (nI g)) :
    rm_I T nf bo np K0 N0 Z0 D0 I0 W0 P0 (st + k) (xst, xow, xin, xpa, xfi, xfr, xno, s', xan', xkn, xen, (nI c'), (nI rm'), xac, K', N', Z', D', Im', W', P', vS, pO, pX, pI, fS, fP, fI, fU, fR, fO, fA, fH, (upd fG g (nI gv)), fN, aS, qL, qR, qP) := by
  subst es
  obtain ⟨hg, hn, hst, hlen, _⟩ := mx_f hX
  obtain ⟨⟨x1, x2, x3, x4, x5, x6, x7, x8, x9, x10⟩, hs, hh, hb, hf, hr, hG, hpot⟩ := hX
  have n16 : fr_o pO fP g ≠ 16 := by omega
  have n35 : fr_o pO fP g ≠ 35 := by omega
  have ns0 : ¬ s' = 0 := by rcases hs' with w | w | w <;> rw [w] <;> decide
  have hbH : ∀ f, f < n → fr_o pO fP f = 16 → fA f ≠ -1 → fG f = 0 → ∃ x, fH f = nI x ∧ x < 53 + rm := fun f hf' o16 hA' hG' => by
    obtain ⟨x, z, a1, a2, a3, _⟩ := hb.1 f hf' o16 hA' hG'
    exact ⟨x, a1, a3⟩
  have hS2 : rm ≤ 600 := by omega
  have hfx : fr_X pO pX np n fP fU fR fO fA (upd fG g (nI gv)) al (g :: pa) True := by
    refine fr_X_rest (fr_X_G (fr_X_w hf) (nI gv)) ⟨fun w => w.1.elim n16 n35, fun _ _ w => absurd hA w⟩
  have hrr : rm ≤ rm' := by omega
  have hbx := gr_bx (rm' := rm') hgr hb hrr (fun f hf' o16 hA' hG' e => by
    obtain ⟨x, a1, a3⟩ := hbH f hf' o16 hA' hG'
    rw [a1] at e
    have := (nI_eq (by omega) hsl).mp e
    omega)
  refine ⟨V', al, g, pa, n, c', rm', a, ⟨⟨x1, x2, x3, rfl, rfl, x6, x7, by omega, hc6, x10⟩, Or.inr hs', gr_hx hgr hh hrr hhs, md_bx_G hbx n16, fr_X_m hfx (fun _ => trivial), ?_, fun f hf' => ?_, ?_⟩, ⟨hxv, fun f hf' => ?_⟩, fun mk0 pd0 v0 hF => ?_⟩
  · have h1 := md_w2_u (fA := fA) (fG := fG) (y := nI gv) hg hy0
    rcases hrm with w | ⟨w, w2, w3⟩
    · omega
    · have h2 := ct_u (w := md_w2 fA fG) (w' := md_w2 fA (upd fG g (nI gv))) hg (fun f _ hne => by unfold md_w2; rw [pk_un hne])
      have h3 : md_w2 fA fG g = 1 := by
        unfold md_w2
        rw [if_pos ⟨w2, hA⟩]
      have h4 : md_w2 fA (upd fG g (nI gv)) g = 0 := by
        unfold md_w2
        rw [pk_us, if_neg (fun z => w3 z.1)]
      omega
  · by_cases e : f = g
    · subst e
      exact ⟨gv, pk_us, hgv⟩
    · obtain ⟨gv', e1, e2⟩ := hG f hf'
      exact ⟨gv', (pk_un e).trans e1, by omega⟩
  · have h1 := md_w1_u (fO := fO) (fA := fA) (fG := fG) (y := nI gv) hg hy0
    rw [md_ph_0] at hpot
    rcases hs' with w | w | w
    · rw [w, md_ph_1]
      rcases hpay w with ⟨w2, w3, w4⟩ | w2
      · have h2 := ct_u (w := md_w1 fO fA fG) (w' := md_w1 fO fA (upd fG g (nI gv))) hg (fun f _ hne => by unfold md_w1; rw [pk_un hne])
        have h3 : md_w1 fO fA fG g = 1 := by
          unfold md_w1
          rw [if_pos w2, hA, w4, if_pos rfl]
        have h4 : md_w1 fO fA (upd fG g (nI gv)) g = 0 := by
          unfold md_w1
          rw [pk_us, if_neg w3, hA, w4, if_pos rfl]
        omega
      · omega
    · rw [w, md_ph_2]; omega
    · rw [w, md_ph_3]; omega
  · obtain ⟨q1, q2, q3⟩ := hv.2 f hf'
    have up : ∀ y : Int32, (∃ s, y = nI s ∧ V s) → ∃ s, y = nI s ∧ V' s := fun y hy => by
      obtain ⟨s, s1, s2⟩ := hy
      exact ⟨s, s1, hgr.2.2.1 s s2⟩
    exact ⟨up _ q1, fun z => up _ (q2 z), fun x hx => up _ (q3 x hx)⟩
  · have hm := hM mk0 pd0 v0 hF
    obtain ⟨yma0, ypo0, yhe0, yvm0, yin0, yfi0, yde0, yap0, yas0, yto0, yan0, yco0, yti0, yna0, yac0, yen0, yic0, o0, l0, kS0, d0, pl0, ys0, yk0, yn0, yp0, yf0, yo0, yi0, yw0, ya0, y10, y20, yK0, yW0, yL0, yq0, nm0, nv0, no0, yA0, lf0, rt0, iK0, iN0⟩ := v0
    refine ⟨fun w => absurd w ns0, fun _ post hp => ?_⟩
    obtain ⟨m, hp⟩ := hp
    refine hm.1 rfl post ⟨m + 1, fun mk pd nd yma ypo yap yas yto yan yco yti yna yac yen o l kS d pl yo yi yw ya y1 y2 yK yW yL yq nm nv no yA lf rt hY => ?_⟩
    have hY0 := hY
    obtain ⟨⟨b1, b2, b3, b4, b5, b6, b7, b8, b9, b10, b11⟩, hfl, hen, hhy, hby, hfr, han, hq0, hq1, hz1, hz2, hz3⟩ := hY
    obtain ⟨ea, eq⟩ := hq0 rfl
    refine ct_F b9 ea (by omega) eq.1 (hYw mk0 pd0 mk pd nd yhe0 yvm0 yin0 yfi0 yde0 yic0 ys0 yk0 yn0 yp0 yf0 iK0 iN0 o0 l0 kS0 d0 pl0 yma ypo yap yas yto yan yco yti yna yac yen o l kS d pl yo yi yw ya y1 y2 yK yW yL yq nm nv no yA lf rt hY0 _ (fun mk' pd' o' l' kS' d' pl' ya' yW' w u1 u2 u3 u4 u5 u6 u7 => ?_))
    have hRR := gr_R hh.1 hhy.1 hgr u1
    refine ct_told ea (by omega) rfl (hp mk' pd' nd (nI mk') (nI pd') yap (nI pa.length) (s' - 1) w (nI c') yti yna yac yen o' l' kS' d' pl' yo yi yw ya' y1 y2 yK yW' yL yq nm nv no yA lf rt ⟨⟨rfl, rfl, b3, rfl, b5, b6, b7, b8, b9, b10, b11.1, by rw [md_w3_G n16]; have := b11.2; omega⟩, hfl, hen, gr_hy u1 hhy (by have := hhy.2.2.1; omega) u3, ?_, fun f hf' => ?_, fun i hi => hRR _ _ (han i hi), fun w => absurd w ns0, fun _ => ⟨rfl, eq.2⟩, fun e => ⟨by rw [e]; decide, u5 e⟩, fun e => by rw [e]; decide, fun e => by rw [e]; decide⟩)
    · have hb2 := gr_by hgr u1 hRR hby hhy.1 (fun f hf' o16 hA' hG' => by
        obtain ⟨x, a1, a3⟩ := hbH f hf' o16 hA' hG'
        exact ⟨x, a1, by omega, by omega⟩) u4
      obtain ⟨q1, q2⟩ := hb2
      have ne : ∀ f, fr_o pO fP f = 16 → f ≠ g := fun f hf' e => n16 (by rw [← e]; exact hf')
      refine ⟨fun f hf' o16 hA' => ?_, fun f f' a1 a2 h1 h2 hne o1 A1 o2 A2 e1 e2 => ?_⟩
      · rw [pk_un (ne f o16), (u6 f (ne f o16)).1, (u6 f (ne f o16)).2]
        exact q1 f hf' o16 hA'
      · rw [(u6 f (ne f o1)).1] at e1
        rw [(u6 f' (ne f' o2)).1] at e2
        exact q2 f f' a1 a2 h1 h2 hne o1 A1 o2 A2 e1 e2
    · obtain ⟨t1, t2, t3, t4, t5⟩ := hfr f hf'
      refine ⟨t1, hRR _ _ t2, t3, fun x hx => (t4 x hx).elim (fun z => Or.inl (hRR _ _ z)) Or.inr, ?_⟩
      by_cases e : f = g
      · subst e
        rw [pk_us]
        exact u7
      · rw [pk_un e, (u6 f e).1, (u6 f e).2]
        exact gr_S hh.1 hhy.1 hgr u1 (by omega) t2 t5
end
section
/-! ===== ends and errors go outwards; what is through ends: for all states of Y ===== -/
/-- validity without a change of frames -/
theorem mv_up {V : Nat → Prop} {n : Nat} {xsi xan xsi' xan' : Int32} {pO fP fI fH fN : Nat → Int32} (h : mv_X V n xsi xan pO fP fI fH fN) (hx : xsi' = 1 → ∃ s, xan' = nI s ∧ V s) : mv_X V n xsi' xan' pO fP fI fH fN := ⟨hx, h.2⟩
theorem rm_up {p : Nat} {pa' : List Nat} {T : List Nat → Option vv_L} {nf bo np : Nat} {K0 N0 Z0 D0 I0 W0 P0 : Nat → Int32} {xst xow xin xpa xfi xfr xno xsi xan xkn xen xco xrm xac : Int32} {K N Z D Im W P vS pO pX pI fS fP fI fU fR fO fA fH fG fN aS qL qR qP : Nat → Int32} {st : Nat} {V al : Nat → Prop} {g : Nat} {n c rm a : Nat}
    (hX : md_X V al g (p :: pa') bo np n c rm a st xfr xno xsi xen xco xrm xac K N Z D Im W P K0 N0 Z0 D0 I0 W0 P0 pO pX fP fU fR fO fA fH fG) (hv : mv_X V n xsi xan pO fP fI fH fN)
    (hM : ∀ (mk0 pd0 : Nat) (v0 : SY), kn_F T np nf pO pX pI fS mk0 pd0 v0 → rm_M V (p :: pa') g np n c rm a st xsi xan K N Z D W P pO pX pI fP fI fO fA fH fG fN aS mk0 pd0 v0) (es : xsi = 1 ∨ xsi = 2 ∨ xsi = 3) {s' : Int32} (hs' : s' = 2 ∨ s' = 3)
    (hYw : ∀ (mk0 pd0 mk pd nd : Nat) (yhe yvm : Int32) (yin : Int64) (yfi yde yic : Int32) (ys : Nat → Int64) (yk yn yp yf iK iN : Nat → Int32) (o0 l0 kS0 d0 : Nat → Int32) (pl0 : Nat → Int64) (yma ypo yap yas yto : Int32) (yan : Int64) (yco yti yna yac yen : Int32) (o l kS d : Nat → Int32) (pl : Nat → Int64) (yo : Nat → Int32) (yi : Nat → Int64) (yw ya y1 y2 : Nat → Int32) (yK : Nat → Int64) (yW : Nat → Int32) (yL : Nat → Int64) (yq nm : Nat → Int32) (nv : Nat → Int64) (no : Nat → Int32) (yA lf rt : Nat → Int64), md_Y V (p :: pa') g np n c rm a st mk pd nd mk0 pd0 xsi xan K N Z D W P pO pX pI fP fI fO fA fH fG fN aS yma ypo yap yas yto yan yco yti yna yac yen o l kS d pl yk yn yp yo yi yw ya y1 y2 yK yW yL yq nm nv no yA o0 l0 kS0 d0 pl0 → ∀ Q : SY → Prop, (∀ w : Int64, Q (yma, ypo, yhe, yvm, yin, yfi, yde, yap, (nI pa'.length), (s' - 1), w, yco, yti, yna, yac, yen, yic, o, l, kS, d, pl, ys, yk, yn, yp, yf, yo, yi, yw, ya, y1, y2, yK, yW, yL, yq, nm, nv, no, yA, lf, rt, iK, iN)) → wpY_goOn Q (yma, ypo, yhe, yvm, yin, yfi, yde, yap, yas, yto, yan, yco, yti, yna, yac, yen, yic, o, l, kS, d, pl, ys, yk, yn, yp, yf, yo, yi, yw, ya, y1, y2, yK, yW, yL, yq, nm, nv, no, yA, lf, rt, iK, iN) (nI p)) : rm_I T nf bo np K0 N0 Z0 D0 I0 W0 P0 (st + 1) (xst, xow, xin, xpa, xfi, xfr, (nI p), s', xan, xkn, xen, xco, xrm, xac, K, N, Z, D, Im, W, P, vS, pO, pX, pI, fS, fP, fI, fU, fR, fO, fA, fH, fG, fN, aS, qL, qR, qP) := by
  obtain ⟨hg, hn, hst, hlen, _⟩ := mx_f hX
  obtain ⟨⟨x1, x2, x3, x4, x5, x6, x7, x8, x9, x10⟩, hs, hh, hb, hf, hr, hG, hpot⟩ := hX
  have ns0 : ¬ s' = 0 := by rcases hs' with w | w <;> rw [w] <;> decide
  have ns1 : ¬ s' = 1 := by rcases hs' with w | w <;> rw [w] <;> decide
  have nx0 : xsi ≠ 0 := by rcases es with w | w | w <;> rw [w] <;> decide
  have hph : 20 + 4 * (pa'.length + 1 + 1) ≤ md_ph xsi (pa'.length + 1 + 1) := by
    rcases es with w | w | w <;> rw [w]
    · rw [md_ph_1]; omega
    · rw [md_ph_2]; omega
    · rw [md_ph_3]; omega
  rw [List.length_cons] at hlen hpot
  refine ⟨V, fun f => al f ∧ f ≠ g, p, pa', n, c, rm, a, ⟨⟨x1, rfl, x3, x4, x5, x6, x7, x8, x9, x10⟩, hs'.elim (fun w => Or.inr (Or.inr (Or.inl w))) (fun w => Or.inr (Or.inr (Or.inr w))), hh, hb, fr_X_m (fr_X_kill hf) (fun w => w.elim ns0 ns1), hr, fun f hf' => ?_, ?_⟩, mv_up hv (fun w => absurd w ns1), fun mk0 pd0 v0 hF => ?_⟩
  · obtain ⟨gv', e1, e2⟩ := hG f hf'
    exact ⟨gv', e1, by omega⟩
  · have : md_ph s' (pa'.length + 1) = 20 + 4 * (pa'.length + 1) := by
      rcases hs' with w | w <;> rw [w]
      · exact md_ph_2 _
      · exact md_ph_3 _
    omega
  · have hm := hM mk0 pd0 v0 hF
    obtain ⟨yma0, ypo0, yhe0, yvm0, yin0, yfi0, yde0, yap0, yas0, yto0, yan0, yco0, yti0, yna0, yac0, yen0, yic0, o0, l0, kS0, d0, pl0, ys0, yk0, yn0, yp0, yf0, yo0, yi0, yw0, ya0, y10, y20, yK0, yW0, yL0, yq0, nm0, nv0, no0, yA0, lf0, rt0, iK0, iN0⟩ := v0
    refine ⟨fun w => absurd w ns0, fun _ post hp => ?_⟩
    obtain ⟨m, hp⟩ := hp
    refine hm.2 nx0 post ⟨m + 1, fun mk pd nd yma ypo yap yas yto yan yco yti yna yac yen o l kS d pl yo yi yw ya y1 y2 yK yW yL yq nm nv no yA lf rt hY => ?_⟩
    have hY0 := hY
    obtain ⟨⟨b1, b2, b3, b4, b5, b6, b7, b8, b9, b10, b11⟩, hfl, hen, hhy, hby, hfr, han, hq0, hq1, hz1, hz2, hz3⟩ := hY
    obtain ⟨ea, eq⟩ := hq1 nx0
    rw [List.length_cons] at ea
    refine ct_T b9 b5 ea (by omega) eq.1 (hYw mk0 pd0 mk pd nd yhe0 yvm0 yin0 yfi0 yde0 yic0 ys0 yk0 yn0 yp0 yf0 iK0 iN0 o0 l0 kS0 d0 pl0 yma ypo yap yas yto yan yco yti yna yac yen o l kS d pl yo yi yw ya y1 y2 yK yW yL yq nm nv no yA lf rt hY0 _ (fun w => ?_))
    refine ct_told ea (by omega) rfl (hp mk pd nd yma ypo yap (nI pa'.length) (s' - 1) w yco yti yna yac yen o l kS d pl yo yi yw ya y1 y2 yK yW yL yq nm nv no yA lf rt ⟨⟨b1, b2, b3, b4, b5, b6, b7, b8, b9, b10, b11⟩, hfl, hen, hhy, hby, fun f hf' => ?_, han, fun w => absurd w ns0, fun _ => ⟨rfl, eq.2⟩, fun w => absurd w ns1, fun w => by rw [w]; decide, fun w => by rw [w]; decide⟩)
    obtain ⟨t1, t2, t3, t4, t5⟩ := hfr f hf'
    exact ⟨t1, t2, t3, t4, fr_S_up (fun _ _ w => w) (fun _ w => w) (fun _ _ w => w) (Nat.le_succ _) t5⟩
/-- asked, and nothing changes but that it ends or fails -/
theorem rm_quiet {T : List Nat → Option vv_L} {nf bo np : Nat} {K0 N0 Z0 D0 I0 W0 P0 : Nat → Int32} {xst xow xin xpa xfi xfr xno xsi xan xkn xen xco xrm xac : Int32} {K N Z D Im W P vS pO pX pI fS fP fI fU fR fO fA fH fG fN aS qL qR qP : Nat → Int32} {st : Nat} {V al : Nat → Prop} {g : Nat} {pa : List Nat} {n c rm a : Nat}
    (hX : md_X V al g pa bo np n c rm a st xfr xno xsi xen xco xrm xac K N Z D Im W P K0 N0 Z0 D0 I0 W0 P0 pO pX fP fU fR fO fA fH fG) (hv : mv_X V n xsi xan pO fP fI fH fN)
    (hM : ∀ (mk0 pd0 : Nat) (v0 : SY), kn_F T np nf pO pX pI fS mk0 pd0 v0 → rm_M V pa g np n c rm a st xsi xan K N Z D W P pO pX pI fP fI fO fA fH fG fN aS mk0 pd0 v0) (es : xsi = 0) {s' : Int32} {k : Nat} (hk : 1 ≤ k) (hk2 : k ≤ 2) (hs' : s' = 2 ∨ s' = 3)
    (hYw : ∀ (mk0 pd0 mk pd nd : Nat) (yhe yvm : Int32) (yin : Int64) (yfi yde yic : Int32) (ys : Nat → Int64) (yk yn yp yf iK iN : Nat → Int32) (o0 l0 kS0 d0 : Nat → Int32) (pl0 : Nat → Int64) (yma ypo yap yas yto : Int32) (yan : Int64) (yco yti yna yac yen : Int32) (o l kS d : Nat → Int32) (pl : Nat → Int64) (yo : Nat → Int32) (yi : Nat → Int64) (yw ya y1 y2 : Nat → Int32) (yK : Nat → Int64) (yW : Nat → Int32) (yL : Nat → Int64) (yq nm : Nat → Int32) (nv : Nat → Int64) (no : Nat → Int32) (yA lf rt : Nat → Int64), md_Y V pa g np n c rm a st mk pd nd mk0 pd0 xsi xan K N Z D W P pO pX pI fP fI fO fA fH fG fN aS yma ypo yap yas yto yan yco yti yna yac yen o l kS d pl yk yn yp yo yi yw ya y1 y2 yK yW yL yq nm nv no yA o0 l0 kS0 d0 pl0 → ∀ Q : SY → Prop, (∀ w : Int64, Q (yma, ypo, yhe, yvm, yin, yfi, yde, yap, (nI pa.length), (s' - 1), w, yco, yti, yna, yac, yen, yic, o, l, kS, d, pl, ys, yk, yn, yp, yf, yo, yi, yw, ya, y1, y2, yK, yW, yL, yq, nm, nv, no, yA, lf, rt, iK, iN)) → wpY_start Q (yma, ypo, yhe, yvm, yin, yfi, yde, yap, yas, yto, yan, yco, yti, yna, yac, yen, yic, o, l, kS, d, pl, ys, yk, yn, yp, yf, yo, yi, yw, ya, y1, y2, yK, yW, yL, yq, nm, nv, no, yA, lf, rt, iK, iN) (nI g)) : rm_I T nf bo np K0 N0 Z0 D0 I0 W0 P0 (st + k) (xst, xow, xin, xpa, xfi, xfr, xno, s', xan, xkn, xen, xco, xrm, xac, K, N, Z, D, Im, W, P, vS, pO, pX, pI, fS, fP, fI, fU, fR, fO, fA, fH, fG, fN, aS, qL, qR, qP) := by
  subst es
  obtain ⟨hg, hn, hst, hlen, _⟩ := mx_f hX
  obtain ⟨⟨x1, x2, x3, x4, x5, x6, x7, x8, x9, x10⟩, hs, hh, hb, hf, hr, hG, hpot⟩ := hX
  have ns0 : ¬ s' = 0 := by rcases hs' with w | w <;> rw [w] <;> decide
  have ns1 : ¬ s' = 1 := by rcases hs' with w | w <;> rw [w] <;> decide
  refine ⟨V, al, g, pa, n, c, rm, a, ⟨⟨x1, x2, x3, x4, x5, x6, x7, x8, x9, x10⟩, hs'.elim (fun w => Or.inr (Or.inr (Or.inl w))) (fun w => Or.inr (Or.inr (Or.inr w))), hh, hb, fr_X_m hf (fun w => absurd w (fun w => w.elim ns0 ns1)), hr, fun f hf' => ?_, ?_⟩, mv_up hv (fun w => absurd w ns1), fun mk0 pd0 v0 hF => ?_⟩
  · obtain ⟨gv', e1, e2⟩ := hG f hf'
    exact ⟨gv', e1, by omega⟩
  · have : md_ph s' (pa.length + 1) = 20 + 4 * (pa.length + 1) := by
      rcases hs' with w | w <;> rw [w]
      · exact md_ph_2 _
      · exact md_ph_3 _
    rw [md_ph_0] at hpot
    omega
  · have hm := hM mk0 pd0 v0 hF
    obtain ⟨yma0, ypo0, yhe0, yvm0, yin0, yfi0, yde0, yap0, yas0, yto0, yan0, yco0, yti0, yna0, yac0, yen0, yic0, o0, l0, kS0, d0, pl0, ys0, yk0, yn0, yp0, yf0, yo0, yi0, yw0, ya0, y10, y20, yK0, yW0, yL0, yq0, nm0, nv0, no0, yA0, lf0, rt0, iK0, iN0⟩ := v0
    refine ⟨fun w => absurd w ns0, fun _ post hp => ?_⟩
    obtain ⟨m, hp⟩ := hp
    refine hm.1 rfl post ⟨m + 1, fun mk pd nd yma ypo yap yas yto yan yco yti yna yac yen o l kS d pl yo yi yw ya y1 y2 yK yW yL yq nm nv no yA lf rt hY => ?_⟩
    have hY0 := hY
    obtain ⟨⟨b1, b2, b3, b4, b5, b6, b7, b8, b9, b10, b11⟩, hfl, hen, hhy, hby, hfr, han, hq0, hq1, hz1, hz2, hz3⟩ := hY
    obtain ⟨ea, eq⟩ := hq0 rfl
    refine ct_F b9 ea (by omega) eq.1 (hYw mk0 pd0 mk pd nd yhe0 yvm0 yin0 yfi0 yde0 yic0 ys0 yk0 yn0 yp0 yf0 iK0 iN0 o0 l0 kS0 d0 pl0 yma ypo yap yas yto yan yco yti yna yac yen o l kS d pl yo yi yw ya y1 y2 yK yW yL yq nm nv no yA lf rt hY0 _ (fun w => ?_))
    refine ct_told ea (by omega) rfl (hp mk pd nd yma ypo yap (nI pa.length) (s' - 1) w yco yti yna yac yen o l kS d pl yo yi yw ya y1 y2 yK yW yL yq nm nv no yA lf rt ⟨⟨b1, b2, b3, b4, b5, b6, b7, b8, b9, b10, b11⟩, hfl, hen, hhy, hby, fun f hf' => ?_, han, fun w => absurd w ns0, fun _ => ⟨rfl, eq.2⟩, fun w => absurd w ns1, fun w => by rw [w]; decide, fun w => by rw [w]; decide⟩)
    obtain ⟨t1, t2, t3, t4, t5⟩ := hfr f hf'
    exact ⟨t1, t2, t3, t4, fr_S_up (fun _ _ w => w) (fun _ w => w) (fun _ _ w => w) (by omega) t5⟩
theorem rm_pass {p : Nat} {pa' : List Nat} {T : List Nat → Option vv_L} {nf bo np : Nat} {K0 N0 Z0 D0 I0 W0 P0 : Nat → Int32} {xst xow xin xpa xfi xfr xno xsi xan xkn xen xco xrm xac : Int32} {K N Z D Im W P vS pO pX pI fS fP fI fU fR fO fA fH fG fN aS qL qR qP : Nat → Int32} {st : Nat} {V al : Nat → Prop} {g : Nat} {n c rm a : Nat}
    (hX : md_X V al g (p :: pa') bo np n c rm a st xfr xno xsi xen xco xrm xac K N Z D Im W P K0 N0 Z0 D0 I0 W0 P0 pO pX fP fU fR fO fA fH fG) (hv : mv_X V n xsi xan pO fP fI fH fN)
    (hM : ∀ (mk0 pd0 : Nat) (v0 : SY), kn_F T np nf pO pX pI fS mk0 pd0 v0 → rm_M V (p :: pa') g np n c rm a st xsi xan K N Z D W P pO pX pI fP fI fO fA fH fG fN aS mk0 pd0 v0) (es : xsi = 1) (n16 : fr_o pO fP p ≠ 16) (n35 : fr_o pO fP p ≠ 35) {gv : Nat} {xan' : Int32} (hgv : gv ≤ st + 1) (hy0 : nI gv = 0 → fG p = 0) (hxv : ∃ s, xan' = nI s ∧ V s)
    (hYw : ∀ (mk0 pd0 mk pd nd : Nat) (yhe yvm : Int32) (yin : Int64) (yfi yde yic : Int32) (ys : Nat → Int64) (yk yn yp yf iK iN : Nat → Int32) (o0 l0 kS0 d0 : Nat → Int32) (pl0 : Nat → Int64) (yma ypo yap yas yto : Int32) (yan : Int64) (yco yti yna yac yen : Int32) (o l kS d : Nat → Int32) (pl : Nat → Int64) (yo : Nat → Int32) (yi : Nat → Int64) (yw ya y1 y2 : Nat → Int32) (yK : Nat → Int64) (yW : Nat → Int32) (yL : Nat → Int64) (yq nm : Nat → Int32) (nv : Nat → Int64) (no : Nat → Int32) (yA lf rt : Nat → Int64), md_Y V (p :: pa') g np n c rm a st mk pd nd mk0 pd0 xsi xan K N Z D W P pO pX pI fP fI fO fA fH fG fN aS yma ypo yap yas yto yan yco yti yna yac yen o l kS d pl yk yn yp yo yi yw ya y1 y2 yK yW yL yq nm nv no yA o0 l0 kS0 d0 pl0 → ∀ Q : SY → Prop, (∀ (y' : Int32) (w : Int64), vv_R V K N Z D P mk o l kS d pl xan' w →
      fr_S (vv_R V K N Z D P mk o l kS d pl) (md_ea Z) (md_dp Z W P) (fr_o pO fP p) (pX (fP p).toNatClampNeg) (st + 1) (fI p) (nI gv) (fA p) (fO p) (fH p) (ya p) (y1 p) (y2 p) y' (yK p) (yL p) →
      Q (yma, ypo, yhe, yvm, yin, yfi, yde, yap, (nI pa'.length), 0, w, yco, yti, yna, yac, yen, yic, o, l, kS, d, pl, ys, yk, yn, yp, yf, yo, yi, yw, ya, y1, y2, yK, (upd yW p y'), yL, yq, nm, nv, no, yA, lf, rt, iK, iN)) → wpY_goOn Q (yma, ypo, yhe, yvm, yin, yfi, yde, yap, yas, yto, yan, yco, yti, yna, yac, yen, yic, o, l, kS, d, pl, ys, yk, yn, yp, yf, yo, yi, yw, ya, y1, y2, yK, yW, yL, yq, nm, nv, no, yA, lf, rt, iK, iN) (nI p)) : rm_I T nf bo np K0 N0 Z0 D0 I0 W0 P0 (st + 1) (xst, xow, xin, xpa, xfi, xfr, (nI p), 1, xan', xkn, xen, xco, xrm, xac, K, N, Z, D, Im, W, P, vS, pO, pX, pI, fS, fP, fI, fU, fR, fO, fA, fH, (upd fG p (nI gv)), fN, aS, qL, qR, qP) := by
  subst es
  obtain ⟨hg, hn, hst, hlen, _⟩ := mx_f hX
  obtain ⟨⟨x1, x2, x3, x4, x5, x6, x7, x8, x9, x10⟩, hs, hh, hb, hf, hr, hG, hpot⟩ := hX
  have hpc := fr_pa_lt _ _ hf.2.2.1 p List.mem_cons_self
  have hpn : p < n := by omega
  rw [List.length_cons] at hlen hpot
  have hal : al g := hf.2.2.2.1 g List.mem_cons_self
  have hAp : fA p = nI g := hf.2.2.1.2.2.1
  have hgl : g ∉ p :: pa' := fun w => by have := fr_pa_lt _ _ hf.2.2.1 g w; omega
  have hfx : fr_X pO pX np n fP fU fR fO fA (upd fG p (nI gv)) al (p :: pa') True := by
    refine fr_X_rest (fr_X_G (fr_X_pop (fr_X_m hf (fun _ => Or.inr rfl))) (nI gv)) ⟨fun w => w.1.elim n16 n35, fun _ _ _ => ?_⟩
    rw [hAp, nI_clamp (by omega)]
    exact ⟨hal, hgl⟩
  refine ⟨V, al, p, pa', n, c, rm, a, ⟨⟨x1, rfl, x3, x4, x5, x6, x7, x8, x9, x10⟩, Or.inr (Or.inl rfl), hh, md_bx_G hb n16, fr_X_m hfx (fun _ => trivial), ?_, fun f hf' => ?_, ?_⟩, mv_up hv (fun _ => hxv), fun mk0 pd0 v0 hF => ?_⟩
  · have := md_w2_u (fA := fA) (fG := fG) (y := nI gv) hpn hy0
    omega
  · by_cases e : f = p
    · subst e
      exact ⟨gv, pk_us, hgv⟩
    · obtain ⟨gv', e1, e2⟩ := hG f hf'
      exact ⟨gv', (pk_un e).trans e1, by omega⟩
  · have := md_w1_u (fO := fO) (fA := fA) (fG := fG) (y := nI gv) hpn hy0
    rw [md_ph_1] at hpot ⊢
    omega
  · have hm := hM mk0 pd0 v0 hF
    obtain ⟨yma0, ypo0, yhe0, yvm0, yin0, yfi0, yde0, yap0, yas0, yto0, yan0, yco0, yti0, yna0, yac0, yen0, yic0, o0, l0, kS0, d0, pl0, ys0, yk0, yn0, yp0, yf0, yo0, yi0, yw0, ya0, y10, y20, yK0, yW0, yL0, yq0, nm0, nv0, no0, yA0, lf0, rt0, iK0, iN0⟩ := v0
    refine ⟨fun w => absurd w (by decide), fun _ post hp => ?_⟩
    obtain ⟨m, hp⟩ := hp
    refine hm.2 (by decide) post ⟨m + 1, fun mk pd nd yma ypo yap yas yto yan yco yti yna yac yen o l kS d pl yo yi yw ya y1 y2 yK yW yL yq nm nv no yA lf rt hY => ?_⟩
    have hY0 := hY
    obtain ⟨⟨b1, b2, b3, b4, b5, b6, b7, b8, b9, b10, b11⟩, hfl, hen, hhy, hby, hfr, han, hq0, hq1, hz1, hz2, hz3⟩ := hY
    obtain ⟨ea, eq⟩ := hq1 (by decide)
    rw [List.length_cons] at ea
    refine ct_T b9 b5 ea (by omega) eq.1 (hYw mk0 pd0 mk pd nd yhe0 yvm0 yin0 yfi0 yde0 yic0 ys0 yk0 yn0 yp0 yf0 iK0 iN0 o0 l0 kS0 d0 pl0 yma ypo yap yas yto yan yco yti yna yac yen o l kS d pl yo yi yw ya y1 y2 yK yW yL yq nm nv no yA lf rt hY0 _ (fun y' w hR hS => ?_))
    refine ct_told ea (by omega) rfl (hp mk pd nd yma ypo yap (nI pa'.length) 0 w yco yti yna yac yen o l kS d pl yo yi yw ya y1 y2 yK (upd yW p y') yL yq nm nv no yA lf rt ⟨⟨b1, b2, b3, b4, b5, b6, b7, b8, b9, b10, b11.1, by rw [md_w3_G n16]; exact b11.2⟩, hfl, hen, hhy, md_by_G hby n16, fun f hf' => ?_, han, fun w => absurd w (by decide), fun _ => ⟨rfl, eq.2⟩, fun _ => ⟨rfl, hR⟩, fun w => absurd w (by decide), fun w => absurd w (by decide)⟩)
    obtain ⟨t1, t2, t3, t4, t5⟩ := hfr f hf'
    refine ⟨t1, t2, t3, t4, ?_⟩
    by_cases e : f = p
    · subst e
      rw [pk_us, pk_us]
      exact hS
    · rw [pk_un e, pk_un e]
      exact fr_S_up (fun _ _ w => w) (fun _ w => w) (fun _ _ w => w) (Nat.le_succ _) t5
theorem rm_down {T : List Nat → Option vv_L} {nf bo np : Nat} {K0 N0 Z0 D0 I0 W0 P0 : Nat → Int32} {xst xow xin xpa xfi xfr xno xsi xan xkn xen xco xrm xac : Int32} {K N Z D Im W P vS pO pX pI fS fP fI fU fR fO fA fH fG fN aS qL qR qP : Nat → Int32} {st : Nat} {V al : Nat → Prop} {g : Nat} {pa : List Nat} {n c rm a : Nat}
    (hX : md_X V al g pa bo np n c rm a st xfr xno xsi xen xco xrm xac K N Z D Im W P K0 N0 Z0 D0 I0 W0 P0 pO pX fP fU fR fO fA fH fG) (hv : mv_X V n xsi xan pO fP fI fH fN)
    (hM : ∀ (mk0 pd0 : Nat) (v0 : SY), kn_F T np nf pO pX pI fS mk0 pd0 v0 → rm_M V pa g np n c rm a st xsi xan K N Z D W P pO pX pI fP fI fO fA fH fG fN aS mk0 pd0 v0) (es : xsi = 0) {ch : Nat} (hA : fA g = nI ch) (hch : ch < 600) (n16 : fr_o pO fP g ≠ 16) (n35 : fr_o pO fP g ≠ 35) (hrun : fr_run pO pX fP fG g)
    (hYw : ∀ (mk0 pd0 mk pd nd : Nat) (yhe yvm : Int32) (yin : Int64) (yfi yde yic : Int32) (ys : Nat → Int64) (yk yn yp yf iK iN : Nat → Int32) (o0 l0 kS0 d0 : Nat → Int32) (pl0 : Nat → Int64) (yma ypo yap yas yto : Int32) (yan : Int64) (yco yti yna yac yen : Int32) (o l kS d : Nat → Int32) (pl : Nat → Int64) (yo : Nat → Int32) (yi : Nat → Int64) (yw ya y1 y2 : Nat → Int32) (yK : Nat → Int64) (yW : Nat → Int32) (yL : Nat → Int64) (yq nm : Nat → Int32) (nv : Nat → Int64) (no : Nat → Int32) (yA lf rt : Nat → Int64), md_Y V pa g np n c rm a st mk pd nd mk0 pd0 xsi xan K N Z D W P pO pX pI fP fI fO fA fH fG fN aS yma ypo yap yas yto yan yco yti yna yac yen o l kS d pl yk yn yp yo yi yw ya y1 y2 yK yW yL yq nm nv no yA o0 l0 kS0 d0 pl0 → ∀ Q : SY → Prop, Q (yma, ypo, yhe, yvm, yin, yfi, yde, yap, (nI (pa.length + 2)), yto, yan, yco, yti, yna, yac, yen, yic, o, l, kS, d, pl, ys, yk, yn, yp, yf, yo, yi, yw, ya, y1, y2, yK, yW, yL, (upd yq (pa.length + 1) (nI ch)), nm, nv, no, yA, lf, rt, iK, iN) → wpY_start Q (yma, ypo, yhe, yvm, yin, yfi, yde, yap, yas, yto, yan, yco, yti, yna, yac, yen, yic, o, l, kS, d, pl, ys, yk, yn, yp, yf, yo, yi, yw, ya, y1, y2, yK, yW, yL, yq, nm, nv, no, yA, lf, rt, iK, iN) (nI g)) : rm_I T nf bo np K0 N0 Z0 D0 I0 W0 P0 (st + 1) (xst, xow, xin, xpa, xfi, xfr, (nI ch), xsi, xan, xkn, xen, xco, xrm, xac, K, N, Z, D, Im, W, P, vS, pO, pX, pI, fS, fP, fI, fU, fR, fO, fA, fH, fG, fN, aS, qL, qR, qP) := by
  subst es
  obtain ⟨hg, hn, hst, hlen, _⟩ := mx_f hX
  obtain ⟨⟨x1, x2, x3, x4, x5, x6, x7, x8, x9, x10⟩, hs, hh, hb, hf, hr, hG, hpot⟩ := hX
  have hf0 := hf
  obtain ⟨h0, h1, h2, h3, h4, h5, h6⟩ := hf
  have hal : al g := h3 g List.mem_cons_self
  obtain ⟨_, hrs⟩ := h5 g hal (Or.inr ⟨Or.inl rfl, rfl⟩)
  obtain ⟨hac, hcl⟩ := hrs n16 n35 (by rw [hA]; exact fr_n1 hch)
  rw [hA, nI_clamp (by omega)] at hac hcl
  have hkid : g < ch ∧ fU ch = nI g := by
    obtain ⟨_, _, k⟩ := h1 g hg
    rcases k with k | ⟨⟨c', e1, e2, e3, e4, e5⟩, _⟩
    · exact absurd (hA.symm.trans k) (fr_n1 hch)
    · have : c' = ch := (nI_eq (by omega) (by omega)).mp (e1.symm.trans hA)
      subst this
      exact ⟨e2, e4⟩
  have hfx := fr_X_push (fr_X_w hf0) hA hac hcl hrun hkid.1 hkid.2
  refine ⟨V, al, ch, g :: pa, n, c, rm, a, ⟨⟨x1, rfl, x3, x4, x5, x6, x7, x8, x9, x10⟩, Or.inl rfl, hh, hb, fr_X_m hfx (fun _ => trivial), hr, fun f hf' => ?_, ?_⟩, hv, fun mk0 pd0 v0 hF => ?_⟩
  · obtain ⟨gv', e1, e2⟩ := hG f hf'
    exact ⟨gv', e1, by omega⟩
  · rw [md_ph_0] at hpot ⊢
    rw [List.length_cons]
    omega
  · have hm := hM mk0 pd0 v0 hF
    obtain ⟨yma0, ypo0, yhe0, yvm0, yin0, yfi0, yde0, yap0, yas0, yto0, yan0, yco0, yti0, yna0, yac0, yen0, yic0, o0, l0, kS0, d0, pl0, ys0, yk0, yn0, yp0, yf0, yo0, yi0, yw0, ya0, y10, y20, yK0, yW0, yL0, yq0, nm0, nv0, no0, yA0, lf0, rt0, iK0, iN0⟩ := v0
    refine ⟨fun _ post hp => ?_, fun w => absurd rfl w⟩
    obtain ⟨m, hp⟩ := hp
    refine hm.1 rfl post ⟨m + 1, fun mk pd nd yma ypo yap yas yto yan yco yti yna yac yen o l kS d pl yo yi yw ya y1 y2 yK yW yL yq nm nv no yA lf rt hY => ?_⟩
    have hY0 := hY
    obtain ⟨⟨b1, b2, b3, b4, b5, b6, b7, b8, b9, b10, b11⟩, hfl, hen, hhy, hby, hfr, han, hq0, hq1, hz1, hz2, hz3⟩ := hY
    obtain ⟨ea, eq⟩ := hq0 rfl
    refine ct_F b9 ea (by omega) eq.1 (hYw mk0 pd0 mk pd nd yhe0 yvm0 yin0 yfi0 yde0 yic0 ys0 yk0 yn0 yp0 yf0 iK0 iN0 o0 l0 kS0 d0 pl0 yma ypo yap yas yto yan yco yti yna yac yen o l kS d pl yo yi yw ya y1 y2 yK yW yL yq nm nv no yA lf rt hY0 _ ?_)
    refine ct_asked ea (by omega) rfl b5 (hp mk pd nd yma ypo yap (nI (pa.length + 2)) yto yan yco yti yna yac yen o l kS d pl yo yi yw ya y1 y2 yK yW yL (upd yq (pa.length + 1) (nI ch)) nm nv no yA lf rt ⟨⟨b1, b2, b3, b4, b5, b6, b7, b8, b9, b10, b11⟩, hfl, hen, hhy, hby, fun f hf' => ?_, han, fun _ => ⟨rfl, pk_us, md_qu eq (by rw [List.length_cons]; exact Nat.le_refl _)⟩, fun w => absurd rfl w, fun w => absurd w (by decide), fun w => absurd w (by decide), fun w => absurd w (by decide)⟩)
    obtain ⟨t1, t2, t3, t4, t5⟩ := hfr f hf'
    exact ⟨t1, t2, t3, t4, fr_S_up (fun _ _ w => w) (fun _ w => w) (fun _ _ w => w) (Nat.le_succ _) t5⟩
end
section
/-! ===== a filter within is applied: for all states of Y ===== -/
theorem rm_new {p : Nat} {pa' : List Nat} {T : List Nat → Option vv_L} {nf bo np : Nat} {K0 N0 Z0 D0 I0 W0 P0 : Nat → Int32} {xst xow xin xpa xfi xfr xno xsi xan xkn xen xco xrm xac : Int32} {K N Z D Im W P vS pO pX pI fS fP fI fU fR fO fA fH fG fN aS qL qR qP : Nat → Int32} {st : Nat} {V al : Nat → Prop} {g : Nat} {pa : List Nat} {n c rm a : Nat}
    (hX : md_X V al g pa bo np n c rm a st xfr xno xsi xen xco xrm xac K N Z D Im W P K0 N0 Z0 D0 I0 W0 P0 pO pX fP fU fR fO fA fH fG) (hv : mv_X V n xsi xan pO fP fI fH fN)
    (hM : ∀ (mk0 pd0 : Nat) (v0 : SY), kn_F T np nf pO pX pI fS mk0 pd0 v0 → rm_M V pa g np n c rm a st xsi xan K N Z D W P pO pX pI fP fI fO fA fH fG fN aS mk0 pd0 v0) (hlen' : pa'.length + 2 ≤ 41) (hph : 20 ≤ md_ph xsi (pa.length + 1)) {al' : Nat → Prop} (hfx : fr_X pO pX np n fP fU fR fO fA fG al' (p :: pa') False) (hc : c < 600) (hn6 : n < 600)
    {q r cq x0 : Nat} {s : Int32} (n16 : fr_o pO fP p ≠ 16) (hrun : fr_run pO pX fP fG p) (eP : fP p = nI q) (hq : q < 40) (hr3 : r < 3) (ePI : pI (q * 3 + r) = nI cq) (hcq : cq < q) (hqn : q < np)
    {fO' fH2 fN2 : Nat → Int32} (eO : ∀ f, f ≠ p → f ≠ n → fO' f = fO f) (eOn : fO' n = -1) (eO0 : r = 0 → fO' p = nI n) (eO1 : r ≠ 0 → fO' p = fO p)
    (hO : r ≠ 0 → fr_o pO fP p ≠ 22 → fr_o pO fP p ≠ 32 → fO p ≠ -1 → al' (fO p).toNatClampNeg ∧ (fO p).toNatClampNeg ∉ p :: pa') (eH2 : ∀ f, f ≠ p → fH2 f = fH f) (eN2 : ∀ f x, f ≠ p → x < 3 → fN2 (f * 3 + x) = fN (f * 3 + x))
    (hsv : ∃ s0, s = nI s0 ∧ V s0) (hH2v : ∃ s0, fH2 p = nI s0 ∧ V s0) (hN2v : ∀ x, x < 3 → ∃ s0, fN2 (p * 3 + x) = nI s0 ∧ V s0)
    (hYw : ∀ (mk0 pd0 mk pd nd : Nat) (yhe yvm : Int32) (yin : Int64) (yfi yde yic : Int32) (ys : Nat → Int64) (yk yn yp yf iK iN : Nat → Int32) (o0 l0 kS0 d0 : Nat → Int32) (pl0 : Nat → Int64) (yma ypo yap yas yto : Int32) (yan : Int64) (yco yti yna yac yen : Int32) (o l kS d : Nat → Int32) (pl : Nat → Int64) (yo : Nat → Int32) (yi : Nat → Int64) (yw ya y1 y2 : Nat → Int32) (yK : Nat → Int64) (yW : Nat → Int32) (yL : Nat → Int64) (yq nm : Nat → Int32) (nv : Nat → Int64) (no : Nat → Int32) (yA lf rt : Nat → Int64), md_Y V pa g np n c rm a st mk pd nd mk0 pd0 xsi xan K N Z D W P pO pX pI fP fI fO fA fH fG fN aS yma ypo yap yas yto yan yco yti yna yac yen o l kS d pl yk yn yp yo yi yw ya y1 y2 yK yW yL yq nm nv no yA o0 l0 kS0 d0 pl0 → ∀ (post : SY → Prop) (m : Nat), (∀ (w : Int64) (wi : Int32) (nd' : Nat) (ya2 y1' y2' : Nat → Int32) (yK2 yL2 : Nat → Int64) (nm2 : Nat → Int32) (nv2 : Nat → Int64) (no2 : Nat → Int32),
          md_q yq (p :: pa') ∧ vv_R V K N Z D P mk o l kS d pl s w ∧ nd ≤ nd' ∧ nd' ≤ n + 1 ∧ en_ok nd' no2 ∧ en_at nd' wi ∧ (∀ b x, en_at nd b → en_e nm2 no2 nv2 b x = en_e nm no nv b x) ∧
          (∀ f, f ≠ p → ya2 f = ya f ∧ yK2 f = yK f ∧ yL2 f = yL f) ∧ (∀ f, f ≠ p → f ≠ n → y1' f = y1 f ∧ y2' f = y2 f) ∧ y1' n = -1 ∧ y2' n = -1 ∧
          (∀ x, x < 3 → vv_R V K N Z D P mk o l kS d pl (fN2 (p * 3 + x)) (en_e nm2 no2 nv2 wi x)) ∧
          (∀ x, x < 3 → vv_R V K N Z D P mk o l kS d pl (fN2 (p * 3 + x)) (en_e nm no nv (yw p) x) ∨ ((fr_o pO fP p = 33 ∨ fr_o pO fP p = 35) ∧ pX q = nI x ∧ y1' p ≠ -1)) ∧
          fr_S (vv_R V K N Z D P mk o l kS d pl) (md_ea Z) (md_dp Z W P) (fr_o pO fP p) (pX q) (st + 1) (fI p) (fG p) (nI n) (fO' p) (fH2 p) (ya2 p) (y1' p) (y2' p) (yW p) (yK2 p) (yL2 p) → wY_work_79 post (nI mk0) (nI pd0) m 1 yma ypo yhe yvm yin yfi yde (nI (n + 1)) (nI (pa'.length + 2)) yto yan (nI (c + 1)) yti (nI nd') yac yen yic o l kS d pl ys yk yn yp yf (upd yo n (yp (q * 3 + r))) (vp_updL yi n w) (upd yw n wi) (upd ya2 n 0) y1' y2' (vp_updL yK2 n 0) (upd yW n 0) yL2 (upd yq (pa'.length + 1) (nI n)) nm2 nv2 no2 yA lf rt iK iN) →
      (xsi = 0 → wY_work_79 post (nI mk0) (nI pd0) (m + 1) 1 yma ypo yhe yvm yin yfi yde yap yas yto yan yco yti yna yac yen yic o l kS d pl ys yk yn yp yf yo yi yw ya y1 y2 yK yW yL yq nm nv no yA lf rt iK iN) ∧ (xsi ≠ 0 → wY_work_146 post (wY_work_79 post (nI mk0) (nI pd0) (m + 1)) (nI mk0) (nI pd0) 0 yma ypo yhe yvm yin yfi yde yap yas yto yan yco yti yna yac yen yic o l kS d pl ys yk yn yp yf yo yi yw ya y1 y2 yK yW yL yq nm nv no yA lf rt iK iN)) :
    rm_I T nf bo np K0 N0 Z0 D0 I0 W0 P0 (st + 1) (xst, xow, xin, xpa, xfi, (nI (n + 1)), (nI n), 0, xan, xkn, xen, (nI (c + 1)), xrm, xac, K, N, Z, D, Im, W, P, vS, pO, pX, pI, fS, (upd fP n (pI (q * 3 + r))), (upd fI n s), (upd fU n (nI p)), (upd fR n (nI r)), fO', (upd (upd fA n (-1)) p (nI n)), (upd fH2 n 0), (upd fG n 0), (fn_c fN2 n p 3), aS, qL, qR, qP) := by
  obtain ⟨hg, hn, hst, hlen, _⟩ := mx_f hX
  obtain ⟨⟨x1, x2, x3, x4, x5, x6, x7, x8, x9, x10⟩, hs, hh, hb, hf, hr, hG, hpot⟩ := hX
  have hpn : p < n := hfx.2.2.2.2.1 p (hfx.2.2.2.1 p List.mem_cons_self)
  have hro : nI r = 0 ∨ nI r = 1 ∨ nI r = 2 := by
    rcases (show r = 0 ∨ r = 1 ∨ r = 2 by omega) with w | w | w <;> subst w
    · exact Or.inl rfl
    · exact Or.inr (Or.inl rfl)
    · exact Or.inr (Or.inr rfl)
  have hr0 : nI r = 0 ↔ r = 0 := nI_eq (b := 0) (by omega) (by omega)
  have eo : ∀ f, f ≠ n → fr_o pO (upd fP n (nI cq)) f = fr_o pO fP f := fun f hf => by unfold fr_o; rw [pk_un hf]
  have hnew := fr_X_new (q := cq) (ro := nI r) (fO' := fO') hfx hn6 hrun (by omega) x10 (by rw [eP, nI_clamp (by omega)]; exact hcq) hro eO eOn (fun w => eO0 (hr0.mp w)) (fun w => eO1 (fun z => w (hr0.mpr z))) (fun w => hO (fun z => w (hr0.mpr z)))
  rw [ePI]
  refine ⟨V, fun f => al' f ∨ f = n, n, p :: pa', n + 1, c + 1, rm, a, ⟨⟨rfl, rfl, x3, rfl, x5, x6, x7, by omega, by omega, x10⟩, Or.inl rfl, hh, ?_, fr_X_m hnew (fun _ => trivial), ?_, fun f hf' => ?_, ?_⟩, ⟨fun w => absurd w (by decide), fun f hf' => ?_⟩, fun mk0 pd0 v0 hF => ?_⟩
  · obtain ⟨h1, h2⟩ := hb
    have key : ∀ f, f < n + 1 → fr_o pO (upd fP n (nI cq)) f = 16 → upd (upd fA n (-1)) p (nI n) f ≠ -1 → upd fG n 0 f = 0 → f < n ∧ f ≠ p ∧ fr_o pO fP f = 16 ∧ fA f ≠ -1 ∧ fG f = 0 ∧ upd fH2 n 0 f = fH f := by
      intro f hf' o16 hA hG'
      by_cases en : f = n
      · subst en
        rw [pk_un (show f ≠ p by omega), pk_us] at hA
        exact absurd rfl hA
      · rw [eo f en] at o16
        have hfp : f ≠ p := fun w => n16 (by rw [← w]; exact o16)
        rw [pk_un hfp, pk_un en] at hA
        rw [pk_un en] at hG'
        exact ⟨by omega, hfp, o16, hA, hG', by rw [pk_un en, eH2 f hfp]⟩
    refine ⟨fun f hf' o16 hA hG' => ?_, fun f f' hf1 hf2 hne o1 a1 g1 o2 a2 g2 => ?_⟩
    · obtain ⟨k1, k2, k3, k4, k5, k6⟩ := key f hf' o16 hA hG'
      rw [k6]
      exact h1 f k1 k3 k4 k5
    · obtain ⟨k1, k2, k3, k4, k5, k6⟩ := key f hf1 o1 a1 g1
      obtain ⟨m1, m2, m3, m4, m5, m6⟩ := key f' hf2 o2 a2 g2
      rw [k6, m6]
      exact h2 f f' k1 m1 hne k3 k4 k5 m3 m4 m5
  · have := md_w2_n (fA := fA) (fG := fG) hpn hn6
    omega
  · by_cases e : f = n
    · subst e
      exact ⟨0, pk_us, by omega⟩
    · obtain ⟨gv', e1, e2⟩ := hG f (by omega)
      exact ⟨gv', (pk_un e).trans e1, by omega⟩
  · have := md_w1_n (fO := fO) (fA := fA) (fG := fG) (fO' := fO') hpn eO eOn
    rw [md_ph_0, List.length_cons]
    omega
  · have zv : ∃ s0, (0 : Int32) = nI s0 ∧ V s0 := ⟨0, rfl, (hh.2.2.2.1.1 0 (by omega)).1⟩
    by_cases en : f = n
    · subst en
      refine ⟨by rw [pk_us]; exact hsv, fun _ => by rw [pk_us]; exact zv, fun x hx => ?_⟩
      rw [fn_c_at 3 hx]
      exact hN2v x hx
    · have hfn : f < n := by omega
      obtain ⟨q1, q2, q3⟩ := hv.2 f hfn
      refine ⟨by rw [pk_un en]; exact q1, fun z => ?_, fun x hx => ?_⟩
      · rw [eo f en] at z
        rw [pk_un en]
        by_cases ep : f = p
        · rw [ep]; exact hH2v
        · rw [eH2 f ep]; exact q2 z
      · rw [fn_c_lo (show f * 3 + x < n * 3 by omega)]
        by_cases ep : f = p
        · rw [ep]; exact hN2v x hx
        · rw [eN2 f x ep hx]; exact q3 x hx
  · have hm := hM mk0 pd0 v0 hF
    obtain ⟨yma0, ypo0, yhe0, yvm0, yin0, yfi0, yde0, yap0, yas0, yto0, yan0, yco0, yti0, yna0, yac0, yen0, yic0, o0, l0, kS0, d0, pl0, ys0, yk0, yn0, yp0, yf0, yo0, yi0, yw0, ya0, y10, y20, yK0, yW0, yL0, yq0, nm0, nv0, no0, yA0, lf0, rt0, iK0, iN0⟩ := v0
    refine ⟨fun _ post hp => ?_, fun w => absurd rfl w⟩
    obtain ⟨m, hp⟩ := hp
    have key : ∀ (mk pd nd : Nat) (yma ypo yap yas yto : Int32) (yan : Int64) (yco yti yna yac yen : Int32) (o l kS d : Nat → Int32) (pl : Nat → Int64) (yo : Nat → Int32) (yi : Nat → Int64) (yw ya y1 y2 : Nat → Int32) (yK : Nat → Int64) (yW : Nat → Int32) (yL : Nat → Int64) (yq nm : Nat → Int32) (nv : Nat → Int64) (no : Nat → Int32) (yA lf rt : Nat → Int64), md_Y V pa g np n c rm a st mk pd nd mk0 pd0 xsi xan K N Z D W P pO pX pI fP fI fO fA fH fG fN aS yma ypo yap yas yto yan yco yti yna yac yen o l kS d pl yk0 yn0 yp0 yo yi yw ya y1 y2 yK yW yL yq nm nv no yA o0 l0 kS0 d0 pl0 → (xsi = 0 → wY_work_79 post (nI mk0) (nI pd0) (m + 1) 1 yma ypo yhe0 yvm0 yin0 yfi0 yde0 yap yas yto yan yco yti yna yac yen yic0 o l kS d pl ys0 yk0 yn0 yp0 yf0 yo yi yw ya y1 y2 yK yW yL yq nm nv no yA lf rt iK0 iN0) ∧ (xsi ≠ 0 → wY_work_146 post (wY_work_79 post (nI mk0) (nI pd0) (m + 1)) (nI mk0) (nI pd0) 0 yma ypo yhe0 yvm0 yin0 yfi0 yde0 yap yas yto yan yco yti yna yac yen yic0 o l kS d pl ys0 yk0 yn0 yp0 yf0 yo yi yw ya y1 y2 yK yW yL yq nm nv no yA lf rt iK0 iN0) := by
      intro mk pd nd yma ypo yap yas yto yan yco yti yna yac yen o l kS d pl yo yi yw ya y1 y2 yK yW yL yq nm nv no yA lf rt hY
      have hY0 := hY
      obtain ⟨⟨b1, b2, b3, b4, b5, b6, b7, b8, b9, b10, b11⟩, hfl, hen, hhy, hby, hfr, han, hq0, hq1, hz1, hz2, hz3⟩ := hY
      refine hYw mk0 pd0 mk pd nd yhe0 yvm0 yin0 yfi0 yde0 yic0 ys0 yk0 yn0 yp0 yf0 iK0 iN0 o0 l0 kS0 d0 pl0 yma ypo yap yas yto yan yco yti yna yac yen o l kS d pl yo yi yw ya y1 y2 yK yW yL yq nm nv no yA lf rt hY0 post m (fun w wi nd' ya2 y1' y2' yK2 yL2 nm2 nv2 no2 hu => ?_)
      obtain ⟨u1, u2, u3, u3', u4, u5, u6, u7, u8, u9, u10, u11, u12, u13⟩ := hu
      refine hp mk pd nd' yma ypo (nI (n + 1)) (nI (pa'.length + 2)) yto yan (nI (c + 1)) yti (nI nd') yac yen o l kS d pl (upd yo n (yp0 (q * 3 + r))) (vp_updL yi n w) (upd yw n wi) (upd ya2 n 0) y1' y2' (vp_updL yK2 n 0) (upd yW n 0) yL2 (upd yq (pa'.length + 1) (nI n)) nm2 nv2 no2 yA lf rt ⟨⟨b1, b2, rfl, rfl, b5, rfl, u3', b8, b9, b10, b11.1, by rw [md_w3_n hpn n16]; exact b11.2⟩, hfl, u4, hhy, ?_, fun f hf' => ?_, han, fun _ => ⟨rfl, pk_us, md_qu u1 (by rw [List.length_cons]; exact Nat.le_refl _)⟩, fun w => absurd rfl w, fun w => absurd w (by decide), fun w => absurd w (by decide), fun w => absurd w (by decide)⟩
      · obtain ⟨h1, h2⟩ := hby
        have key : ∀ f, f < n + 1 → fr_o pO (upd fP n (nI cq)) f = 16 → upd (upd fA n (-1)) p (nI n) f ≠ -1 → f < n ∧ f ≠ p ∧ f ≠ n ∧ fr_o pO fP f = 16 ∧ fA f ≠ -1 := by
          intro f hf' o16 hA
          by_cases en : f = n
          · subst en
            rw [pk_un (show f ≠ p by omega), pk_us] at hA
            exact absurd rfl hA
          · rw [eo f en] at o16
            have hfp : f ≠ p := fun w => n16 (by rw [← w]; exact o16)
            rw [pk_un hfp, pk_un en] at hA
            exact ⟨by omega, hfp, en, o16, hA⟩
        refine ⟨fun f hf' o16 hA => ?_, fun f f' a1 a2 hf1 hf2 hne o1 A1 o2 A2 e1 e2 => ?_⟩
        · obtain ⟨k1, k2, k3, k4, k5⟩ := key f hf' o16 hA
          rw [pk_un k3, pk_un k3, pk_un k3, pk_un k3, eH2 f k2, (u7 f k2).1]
          exact h1 f k1 k4 k5
        · obtain ⟨k1, k2, k3, k4, k5⟩ := key f hf1 o1 A1
          obtain ⟨m1, m2, m3, m4, m5⟩ := key f' hf2 o2 A2
          rw [pk_un k3, (u7 f k2).1] at e1
          rw [pk_un m3, (u7 f' m2).1] at e2
          exact h2 f f' a1 a2 k1 m1 hne k4 k5 m4 m5 e1 e2
      · by_cases en : f = n
        · subst en
          refine ⟨?_, ?_, ?_, fun x hx => Or.inl ?_, ?_⟩
          · rw [pk_us, pk_us, b11.1, ePI]
          · rw [pk_us, pk_uLs]
            exact u2
          · rw [pk_us]
            exact u5
          · rw [fn_c_at 3 hx, pk_us]
            exact u11 x hx
          · have hfp := hfl cq (by omega)
            obtain ⟨oq', p1, p2, p3, p4, p5, p6, p7, p8, p9⟩ := hfp
            have hoo : fr_o pO (upd fP f (nI cq)) f = oq' := by
              unfold fr_o
              rw [pk_us, nI_clamp (show cq < 2 ^ 31 by omega), p2, nI_clamp (by omega)]
            rw [hoo, pk_us, pk_us, pk_un (show f ≠ p by omega), pk_us, eOn, pk_us, pk_us, u9, u10, pk_us, pk_uLs, nI_clamp (show cq < 2 ^ 31 by omega), pk_us]
            exact fr_S0 (rl_R00 hh.1 hh.2.2.2.1) (Nat.zero_le _) p8
        · have hfn : f < n := by omega
          obtain ⟨t1, t2, t3, t4, t5⟩ := hfr f hfn
          by_cases ep : f = p
          · subst ep
            refine ⟨?_, ?_, ?_, fun x hx => ?_, ?_⟩
            · rw [pk_un en, pk_un en]; exact t1
            · rw [pk_un en, pk_uLn en]; exact t2
            · rw [pk_un en]; exact en_at_u t3 u3
            · rw [fn_c_lo (show f * 3 + x < n * 3 by omega), pk_un en, pk_un en, eo f en, u6 _ _ t3, eP, nI_clamp (show q < 2 ^ 31 by omega)]
              exact u12 x hx
            · rw [eo f en, pk_un en, pk_un en, pk_un en, pk_us, pk_un en, pk_un en, pk_un en, pk_uLn en, eP, nI_clamp (show q < 2 ^ 31 by omega)]
              exact u13
          · obtain ⟨v1, v2, v3⟩ := u7 f ep
            obtain ⟨v4, v5⟩ := u8 f ep en
            refine ⟨?_, ?_, ?_, fun x hx => ?_, ?_⟩
            · rw [pk_un en, pk_un en]; exact t1
            · rw [pk_un en, pk_uLn en]; exact t2
            · rw [pk_un en]; exact en_at_u t3 u3
            · rw [fn_c_lo (show f * 3 + x < n * 3 by omega), pk_un en, pk_un en, eo f en, u6 _ _ t3, eN2 f x ep hx, v4]
              exact t4 x hx
            · rw [eo f en, pk_un en, pk_un en, pk_un en, pk_un ep, pk_un en, pk_un en, pk_un en, pk_un en, pk_uLn en, eO f ep en, eH2 f ep, v1, v2, v3, v4, v5]
              exact fr_S_up (fun _ _ w => w) (fun _ w => w) (fun _ _ w => w) (Nat.le_succ _) t5
    by_cases e0 : xsi = 0
    · exact hm.1 e0 post ⟨m + 1, fun mk pd nd yma ypo yap yas yto yan yco yti yna yac yen o l kS d pl yo yi yw ya y1 y2 yK yW yL yq nm nv no yA lf rt hY => (key mk pd nd yma ypo yap yas yto yan yco yti yna yac yen o l kS d pl yo yi yw ya y1 y2 yK yW yL yq nm nv no yA lf rt hY).1 e0⟩
    · exact hm.2 e0 post ⟨m + 1, fun mk pd nd yma ypo yap yas yto yan yco yti yna yac yen o l kS d pl yo yi yw ya y1 y2 yK yW yL yq nm nv no yA lf rt hY => (key mk pd nd yma ypo yap yas yto yan yco yti yna yac yen o l kS d pl yo yi yw ya y1 y2 yK yW yL yq nm nv no yA lf rt hY).2 e0⟩
end
section
/-! ===== the run's end: for all states of Y ===== -/
/-- the whole filter has answered, and is asked again -/
theorem ct_R0 {yma ypo yhe yvm : Int32} {yin : Int64} {yfi yde yap yas yto : Int32} {yan : Int64} {yco yti yna yac yen yic : Int32} {o l kS d : Nat → Int32} {pl ys : Nat → Int64} {yk yn yp yf yo : Nat → Int32} {yi : Nat → Int64} {yw ya y1 y2 : Nat → Int32} {yK : Nat → Int64} {yW : Nat → Int32} {yL : Nat → Int64} {yq nm : Nat → Int32} {nv : Nat → Int64} {no : Nat → Int32} {yA lf rt : Nat → Int64} {iK iN : Nat → Int32} {post : SY → Prop} {mk0 pd0 m a : Nat} (ht0 : yti = 0) (ea : yas = nI 0) (eo : yto = 0) (ec : yac = nI a) (ha : a + 1 < 20)
    (h : wY_work_79 post (nI mk0) (nI pd0) m 1 yma ypo yhe yvm yin yfi yde yap (nI 1) yto yan yco yti yna (nI (a + 1)) yen yic o l kS d pl ys yk yn yp yf yo yi yw ya y1 y2 yK yW yL (upd yq 0 0) nm nv no (vp_updL yA a yan) lf rt iK iN) : wY_work_146 post (wY_work_79 post (nI mk0) (nI pd0) m) (nI mk0) (nI pd0) 0 yma ypo yhe yvm yin yfi yde yap yas yto yan yco yti yna yac yen yic o l kS d pl ys yk yn yp yf yo yi yw ya y1 y2 yK yW yL yq nm nv no yA lf rt iK iN := by
  unfold wY_work_146
  refine br_t ht0 (br_t ea ?_)
  unfold wpY_takeAnswer
  dsimp only
  rw [ec, nI_clamp (show a < 2 ^ 31 by omega)]
  refine br_t eo ⟨vp_in_nI (by omega) (by omega), nm_e (nm_r (nI_1 a) (br_f (fun z => absurd ((nI_eq (b := 20) (by omega) (by omega)).mp z) (by omega)) ?_))⟩
  unfold wY_takeAnswer_67
  exact yr_askAgain (a := 0) ea (by omega) h
/-- the twentieth answer -/
theorem ct_R20 {yma ypo yhe yvm : Int32} {yin : Int64} {yfi yde yap yas yto : Int32} {yan : Int64} {yco yti yna yac yen yic : Int32} {o l kS d : Nat → Int32} {pl ys : Nat → Int64} {yk yn yp yf yo : Nat → Int32} {yi : Nat → Int64} {yw ya y1 y2 : Nat → Int32} {yK : Nat → Int64} {yW : Nat → Int32} {yL : Nat → Int64} {yq nm : Nat → Int32} {nv : Nat → Int64} {no : Nat → Int32} {yA lf rt : Nat → Int64} {iK iN : Nat → Int32} {post : SY → Prop} {mk0 pd0 m : Nat} (ht0 : yti = 0) (ea : yas = nI 0) (eo : yto = 0) (ec : yac = nI 19)
    (h : post ((nI mk0), (nI pd0), yhe, yvm, yin, yfi, yde, yap, (nI 1), yto, yan, yco, yti, yna, (nI 20), 1, yic, o, l, kS, d, pl, ys, yk, yn, yp, yf, yo, yi, yw, ya, y1, y2, yK, yW, yL, (upd yq 0 0), nm, nv, no, (vp_updL yA 19 yan), lf, rt, iK, iN)) : wY_work_146 post (wY_work_79 post (nI mk0) (nI pd0) (m + 1)) (nI mk0) (nI pd0) 0 yma ypo yhe yvm yin yfi yde yap yas yto yan yco yti yna yac yen yic o l kS d pl ys yk yn yp yf yo yi yw ya y1 y2 yK yW yL yq nm nv no yA lf rt iK iN := by
  unfold wY_work_146
  refine br_t ht0 (br_t ea ?_)
  unfold wpY_takeAnswer
  dsimp only
  rw [ec, nI_clamp (show 19 < 2 ^ 31 by omega)]
  refine br_t eo ⟨vp_in_nI (by omega) (by omega), nm_e (nm_r (nI_1 19) (br_t rfl ?_))⟩
  unfold wY_takeAnswer_67
  refine yr_askAgain (a := 0) ea (by omega) ?_
  dsimp only
  unfold wY_work_79
  exact br_f (by decide) h
/-- the whole filter has ended or failed -/
theorem ct_R1 {yma ypo yhe yvm : Int32} {yin : Int64} {yfi yde yap yas yto : Int32} {yan : Int64} {yco yti yna yac yen yic : Int32} {o l kS d : Nat → Int32} {pl ys : Nat → Int64} {yk yn yp yf yo : Nat → Int32} {yi : Nat → Int64} {yw ya y1 y2 : Nat → Int32} {yK : Nat → Int64} {yW : Nat → Int32} {yL : Nat → Int64} {yq nm : Nat → Int32} {nv : Nat → Int64} {no : Nat → Int32} {yA lf rt : Nat → Int64} {iK iN : Nat → Int32} {post : SY → Prop} {mk0 pd0 m : Nat} (ht0 : yti = 0) (ea : yas = nI 0) {e : Int32} (he : (yto = 1 ∧ e = 0) ∨ (yto = 2 ∧ e = 2))
    (h : post ((nI mk0), (nI pd0), yhe, yvm, yin, yfi, yde, yap, yas, yto, yan, yco, yti, yna, yac, e, yic, o, l, kS, d, pl, ys, yk, yn, yp, yf, yo, yi, yw, ya, y1, y2, yK, yW, yL, yq, nm, nv, no, yA, lf, rt, iK, iN)) : wY_work_146 post (wY_work_79 post (nI mk0) (nI pd0) (m + 1)) (nI mk0) (nI pd0) 0 yma ypo yhe yvm yin yfi yde yap yas yto yan yco yti yna yac yen yic o l kS d pl ys yk yn yp yf yo yi yw ya y1 y2 yK yW yL yq nm nv no yA lf rt iK iN := by
  unfold wY_work_146
  refine br_t ht0 (br_t ea ?_)
  unfold wpY_takeAnswer
  dsimp only
  rcases he with ⟨z, w⟩ | ⟨z, w⟩
  · rw [w] at h
    refine br_f (by rw [z]; decide) (br_t z ?_)
    unfold wY_work_79
    exact br_f (by decide) h
  · rw [w] at h
    refine br_f (by rw [z]; decide) (br_f (by rw [z]; decide) ?_)
    unfold wY_work_79
    exact br_f (by decide) h
/-- X's side of the run's end -/
theorem rm_end {T : List Nat → Option vv_L} {nf bo np : Nat} {K0 N0 Z0 D0 I0 W0 P0 : Nat → Int32} {xst xow xin xpa xfi xfr xno xsi xan xkn xen xco xrm xac : Int32} {K N Z D Im W P vS pO pX pI fS fP fI fU fR fO fA fH fG fN aS qL qR qP : Nat → Int32} {K' N' Z' aS' fP' fI' fU' fR' fO' fA' fH' fG' fN' : Nat → Int32} {xen' xco' xac' xfr' xno' xsi' xan' xrm' : Int32} {st : Nat} {V al : Nat → Prop} {g : Nat} {pa : List Nat} {n c rm a a' : Nat}
    (hX : md_X V al g pa bo np n c rm a st xfr xno xsi xen xco xrm xac K N Z D Im W P K0 N0 Z0 D0 I0 W0 P0 pO pX fP fU fR fO fA fH fG)
    (hen : ¬ xen' = -1) (ha : xac' = nI a') (ha' : a' ≤ 20) (hK : ∀ s, V s ∨ s < 53 → K' s = K s ∧ N' s = N s ∧ Z' s = Z s)
    (hN : ∀ (mk0 pd0 : Nat) (v0 : SY), kn_F T np nf pO pX pI fS mk0 pd0 v0 → rm_N V a' xen' xco' xac' K N Z D P aS' mk0 pd0 v0) :
    rm_E T nf bo np K0 N0 Z0 D0 I0 W0 P0 (xst, xow, xin, xpa, xfi, xfr', xno', xsi', xan', xkn, xen', xco', xrm', xac', K', N', Z', D, Im, W, P, vS, pO, pX, pI, fS, fP', fI', fU', fR', fO', fA', fH', fG', fN', aS', qL, qR, qP) := by
  obtain ⟨⟨x1, x2, x3, x4, x5, x6, x7, x8, x9, x10⟩, hs, hh, hb, hf, hr, hG, hpot⟩ := hX
  obtain ⟨k1, k2, k3, k4, k5⟩ := hh
  have hveq : vv_eq V K N Z D Im W P K' N' Z' D Im W P := fun s hs => by
    obtain ⟨e1, e2, e3⟩ := hK s (Or.inl hs)
    exact ⟨e1, e2, e3, rfl, rfl, rfl, fun _ _ => rfl⟩
  refine ⟨hen, V, a', vv_ox_eq k1 hveq, fun s hs => (k2 s hs).1, fun s hs => ?_, ha, ha', fun mk0 pd0 v0 hF => ?_⟩
  · obtain ⟨e1, e2, e3⟩ := hK s (Or.inr hs)
    obtain ⟨f1, f2, f3, f4, f5, f6, f7⟩ := k5 s hs
    exact ⟨e1.trans f1, e2.trans f2, e3.trans f3, f4, f5, f6, f7⟩
  · have hy := hN mk0 pd0 v0 hF
    obtain ⟨yma0, ypo0, yhe0, yvm0, yin0, yfi0, yde0, yap0, yas0, yto0, yan0, yco0, yti0, yna0, yac0, yen0, yic0, o0, l0, kS0, d0, pl0, ys0, yk0, yn0, yp0, yf0, yo0, yi0, yw0, ya0, y10, y20, yK0, yW0, yL0, yq0, nm0, nv0, no0, yA0, lf0, rt0, iK0, iN0⟩ := v0
    intro post hp
    refine hy post (fun mk pd yma ypo yap yas yto yan yco yti yna yac yen o l kS d pl yo yi yw ya y1 y2 yK yW yL yq nm nv no yA lf rt ⟨h1, h2, h3, h4, h5, h6, h7⟩ => ?_)
    exact hp mk pd yma ypo yap yas yto yan yco yti yna yac yen o l kS d pl yo yi yw ya y1 y2 yK yW yL yq nm nv no yA lf rt ⟨h1, h2, h3, h4, h5, h6, fun i hi => vv_R_ux k1 h4 hveq (fun _ z => z) (h7 i hi)⟩
/-- the whole filter has ended or failed -/
theorem rm_root1 {T : List Nat → Option vv_L} {nf bo np : Nat} {K0 N0 Z0 D0 I0 W0 P0 : Nat → Int32} {xst xow xin xpa xfi xfr xno xsi xan xkn xen xco xrm xac : Int32} {K N Z D Im W P vS pO pX pI fS fP fI fU fR fO fA fH fG fN aS qL qR qP : Nat → Int32} {st : Nat} {V al : Nat → Prop} {g : Nat} {n c rm a : Nat}
    (hX : md_X V al g [] bo np n c rm a st xfr xno xsi xen xco xrm xac K N Z D Im W P K0 N0 Z0 D0 I0 W0 P0 pO pX fP fU fR fO fA fH fG) (hv : mv_X V n xsi xan pO fP fI fH fN)
    (hM : ∀ (mk0 pd0 : Nat) (v0 : SY), kn_F T np nf pO pX pI fS mk0 pd0 v0 → rm_M V [] g np n c rm a st xsi xan K N Z D W P pO pX pI fP fI fO fA fH fG fN aS mk0 pd0 v0) {e : Int32} (he : (xsi = 2 ∧ e = 0) ∨ (xsi = 3 ∧ e = 2)) : rm_E T nf bo np K0 N0 Z0 D0 I0 W0 P0 (xst, xow, xin, xpa, xfi, xfr, xno, xsi, xan, xkn, e, xco, xrm, xac, K, N, Z, D, Im, W, P, vS, pO, pX, pI, fS, fP, fI, fU, fR, fO, fA, fH, fG, fN, aS, qL, qR, qP) := by
  have nx0 : xsi ≠ 0 := by rcases he with w | w <;> rw [w.1] <;> decide
  have hX0 := hX
  obtain ⟨⟨x1, x2, x3, x4, x5, x6, x7, x8, x9, x10⟩, hs, hh, hb, hf, hr, hG, hpot⟩ := hX
  refine rm_end (xan := xan) (fI := fI) (fN := fN) (aS := aS) (a' := a) hX0 (by rcases he with w | w <;> rw [w.2] <;> decide) x6 (by omega) (fun _ _ => ⟨rfl, rfl, rfl⟩) (fun mk0 pd0 v0 hF => ?_)
  have hm := hM mk0 pd0 v0 hF
  obtain ⟨yma0, ypo0, yhe0, yvm0, yin0, yfi0, yde0, yap0, yas0, yto0, yan0, yco0, yti0, yna0, yac0, yen0, yic0, o0, l0, kS0, d0, pl0, ys0, yk0, yn0, yp0, yf0, yo0, yi0, yw0, ya0, y10, y20, yK0, yW0, yL0, yq0, nm0, nv0, no0, yA0, lf0, rt0, iK0, iN0⟩ := v0
  intro post hp
  refine hm.2 nx0 post ⟨1, fun mk pd nd yma ypo yap yas yto yan yco yti yna yac yen o l kS d pl yo yi yw ya y1 y2 yK yW yL yq nm nv no yA lf rt hY => ?_⟩
  obtain ⟨⟨b1, b2, b3, b4, b5, b6, b7, b8, b9, b10, b11⟩, hfl, hen, hhy, hby, hfr, han, hq0, hq1, hz1, hz2, hz3⟩ := hY
  obtain ⟨ea, eq⟩ := hq1 nx0
  obtain ⟨c1, c2, c3, c4, c5, c6, c7⟩ := hhy
  refine ct_R1 (e := e) b5 ea ?_ (hp mk pd (nI mk0) (nI pd0) yap yas yto yan yco yti yna yac e o l kS d pl yo yi yw ya y1 y2 yK yW yL yq nm nv no yA lf rt ⟨rfl, ?_, ?_, c1, c6, c7, han⟩)
  · rcases he with ⟨w, w2⟩ | ⟨w, w2⟩
    · exact Or.inl ⟨hz2 w, w2⟩
    · exact Or.inr ⟨hz3 w, w2⟩
  · rw [x4, ← b4]
  · rw [x6, ← b8]
/-- the twentieth answer -/
theorem rm_root20 {T : List Nat → Option vv_L} {nf bo np : Nat} {K0 N0 Z0 D0 I0 W0 P0 : Nat → Int32} {xst xow xin xpa xfi xfr xno xsi xan xkn xen xco xrm xac : Int32} {K N Z D Im W P vS pO pX pI fS fP fI fU fR fO fA fH fG fN aS qL qR qP : Nat → Int32} {st : Nat} {V al : Nat → Prop} {g : Nat} {n c rm a : Nat}
    (hX : md_X V al g [] bo np n c rm a st xfr xno xsi xen xco xrm xac K N Z D Im W P K0 N0 Z0 D0 I0 W0 P0 pO pX fP fU fR fO fA fH fG) (hv : mv_X V n xsi xan pO fP fI fH fN)
    (hM : ∀ (mk0 pd0 : Nat) (v0 : SY), kn_F T np nf pO pX pI fS mk0 pd0 v0 → rm_M V [] g np n c rm a st xsi xan K N Z D W P pO pX pI fP fI fO fA fH fG fN aS mk0 pd0 v0) (es : xsi = 1) (e20 : a + 1 = 20) : rm_E T nf bo np K0 N0 Z0 D0 I0 W0 P0 (xst, xow, xin, xpa, xfi, xfr, xno, 0, xan, xkn, 1, xco, xrm, (nI (a + 1)), K, N, Z, D, Im, W, P, vS, pO, pX, pI, fS, fP, fI, fU, fR, fO, fA, fH, fG, fN, (upd aS a xan), qL, qR, qP) := by
  have nx0 : xsi ≠ 0 := by rw [es]; decide
  have ea19 : a = 19 := by omega
  subst ea19
  have hX0 := hX
  obtain ⟨⟨x1, x2, x3, x4, x5, x6, x7, x8, x9, x10⟩, hs, hh, hb, hf, hr, hG, hpot⟩ := hX
  refine rm_end (xan := xan) (fI := fI) (fN := fN) (aS := aS) (a' := 20) hX0 (by decide) rfl (by omega) (fun _ _ => ⟨rfl, rfl, rfl⟩) (fun mk0 pd0 v0 hF => ?_)
  have hm := hM mk0 pd0 v0 hF
  obtain ⟨yma0, ypo0, yhe0, yvm0, yin0, yfi0, yde0, yap0, yas0, yto0, yan0, yco0, yti0, yna0, yac0, yen0, yic0, o0, l0, kS0, d0, pl0, ys0, yk0, yn0, yp0, yf0, yo0, yi0, yw0, ya0, y10, y20, yK0, yW0, yL0, yq0, nm0, nv0, no0, yA0, lf0, rt0, iK0, iN0⟩ := v0
  intro post hp
  refine hm.2 nx0 post ⟨1, fun mk pd nd yma ypo yap yas yto yan yco yti yna yac yen o l kS d pl yo yi yw ya y1 y2 yK yW yL yq nm nv no yA lf rt hY => ?_⟩
  obtain ⟨⟨b1, b2, b3, b4, b5, b6, b7, b8, b9, b10, b11⟩, hfl, hen, hhy, hby, hfr, han, hq0, hq1, hz1, hz2, hz3⟩ := hY
  obtain ⟨ea, eq⟩ := hq1 nx0
  obtain ⟨z1, z2⟩ := hz1 es
  obtain ⟨c1, c2, c3, c4, c5, c6, c7⟩ := hhy
  refine ct_R20 b5 ea z1 b8 (hp mk pd (nI mk0) (nI pd0) yap (nI 1) yto yan yco yti yna (nI 20) 1 o l kS d pl yo yi yw ya y1 y2 yK yW yL (upd yq 0 0) nm nv no (vp_updL yA 19 yan) lf rt ⟨rfl, ?_, rfl, c1, c6, c7, fun i hi => ?_⟩)
  · rw [x4, ← b4]
  · by_cases ei : i = 19
    · subst ei
      rw [pk_us, pk_uLs]
      exact z2
    · rw [pk_un ei, pk_uLn ei]
      exact han i (by omega)
/-- an answer, and the whole filter is asked again -/
theorem rm_root0 {T : List Nat → Option vv_L} {nf bo np : Nat} {K0 N0 Z0 D0 I0 W0 P0 : Nat → Int32} {xst xow xin xpa xfi xfr xno xsi xan xkn xen xco xrm xac : Int32} {K N Z D Im W P vS pO pX pI fS fP fI fU fR fO fA fH fG fN aS qL qR qP : Nat → Int32} {st : Nat} {V al : Nat → Prop} {g : Nat} {n c rm a : Nat}
    (hX : md_X V al g [] bo np n c rm a st xfr xno xsi xen xco xrm xac K N Z D Im W P K0 N0 Z0 D0 I0 W0 P0 pO pX fP fU fR fO fA fH fG) (hv : mv_X V n xsi xan pO fP fI fH fN)
    (hM : ∀ (mk0 pd0 : Nat) (v0 : SY), kn_F T np nf pO pX pI fS mk0 pd0 v0 → rm_M V [] g np n c rm a st xsi xan K N Z D W P pO pX pI fP fI fO fA fH fG fN aS mk0 pd0 v0) (es : xsi = 1) (n20 : a + 1 ≠ 20) : rm_I T nf bo np K0 N0 Z0 D0 I0 W0 P0 (st + 1) (xst, xow, xin, xpa, xfi, xfr, xno, 0, xan, xkn, xen, xco, xrm, (nI (a + 1)), K, N, Z, D, Im, W, P, vS, pO, pX, pI, fS, fP, fI, fU, fR, fO, fA, fH, fG, fN, (upd aS a xan), qL, qR, qP) := by
  have nx0 : xsi ≠ 0 := by rw [es]; decide
  obtain ⟨⟨x1, x2, x3, x4, x5, x6, x7, x8, x9, x10⟩, hs, hh, hb, hf, hr, hG, hpot⟩ := hX
  have g0 : g = 0 := hf.2.2.1.1
  refine ⟨V, al, g, [], n, c, rm, a + 1, ⟨⟨x1, x2, x3, x4, x5, rfl, by omega, x8, x9, x10⟩, Or.inl rfl, hh, hb, fr_X_m hf (fun _ => Or.inr es), hr, fun f hf' => ?_, ?_⟩, mv_up hv (fun w => absurd w (by decide)), fun mk0 pd0 v0 hF => ?_⟩
  · obtain ⟨gv', e1, e2⟩ := hG f hf'
    exact ⟨gv', e1, by omega⟩
  · rw [es, md_ph_1] at hpot
    rw [md_ph_0]
    omega
  · have hm := hM mk0 pd0 v0 hF
    obtain ⟨yma0, ypo0, yhe0, yvm0, yin0, yfi0, yde0, yap0, yas0, yto0, yan0, yco0, yti0, yna0, yac0, yen0, yic0, o0, l0, kS0, d0, pl0, ys0, yk0, yn0, yp0, yf0, yo0, yi0, yw0, ya0, y10, y20, yK0, yW0, yL0, yq0, nm0, nv0, no0, yA0, lf0, rt0, iK0, iN0⟩ := v0
    refine ⟨fun _ post hp => ?_, fun w => absurd rfl w⟩
    obtain ⟨m, hp⟩ := hp
    refine hm.2 nx0 post ⟨m, fun mk pd nd yma ypo yap yas yto yan yco yti yna yac yen o l kS d pl yo yi yw ya y1 y2 yK yW yL yq nm nv no yA lf rt hY => ?_⟩
    obtain ⟨⟨b1, b2, b3, b4, b5, b6, b7, b8, b9, b10, b11⟩, hfl, hen, hhy, hby, hfr, han, hq0, hq1, hz1, hz2, hz3⟩ := hY
    obtain ⟨ea, eq⟩ := hq1 nx0
    obtain ⟨z1, z2⟩ := hz1 es
    refine ct_R0 b5 ea z1 b8 (by omega) (hp mk pd nd yma ypo yap (nI 1) yto yan yco yti yna (nI (a + 1)) yen o l kS d pl yo yi yw ya y1 y2 yK yW yL (upd yq 0 0) nm nv no (vp_updL yA a yan) lf rt ⟨⟨b1, b2, b3, b4, b5, b6, b7, rfl, b9, b10, b11⟩, hfl, hen, hhy, hby, fun f hf' => ?_, fun i hi => ?_, fun _ => ⟨rfl, ?_⟩, fun w => absurd rfl w, fun w => absurd w (by decide), fun w => absurd w (by decide), fun w => absurd w (by decide)⟩)
    · obtain ⟨t1, t2, t3, t4, t5⟩ := hfr f hf'
      exact ⟨t1, t2, t3, t4, fr_S_up (fun _ _ w => w) (fun _ w => w) (fun _ _ w => w) (Nat.le_succ _) t5⟩
    · by_cases ei : i = a
      · subst ei
        rw [pk_us, pk_uLs]
        exact z2
      · rw [pk_un ei, pk_uLn ei]
        exact han i (by omega)
    · rw [g0]
      exact ⟨pk_us, trivial⟩
end
section
/-! ===== too much was counted: for all states of Y ===== -/
theorem rm_tiredF {T : List Nat → Option vv_L} {nf bo np : Nat} {K0 N0 Z0 D0 I0 W0 P0 : Nat → Int32} {xst xow xin xpa xfi xfr xno xsi xan xkn xen xco xrm xac : Int32} {K N Z D Im W P vS pO pX pI fS fP fI fU fR fO fA fH fG fN aS qL qR qP : Nat → Int32} {st : Nat} {V al : Nat → Prop} {g : Nat} {pa : List Nat} {n c rm a : Nat}
    (hX : md_X V al g pa bo np n c rm a st xfr xno xsi xen xco xrm xac K N Z D Im W P K0 N0 Z0 D0 I0 W0 P0 pO pX fP fU fR fO fA fH fG) (hv : mv_X V n xsi xan pO fP fI fH fN)
    (hM : ∀ (mk0 pd0 : Nat) (v0 : SY), kn_F T np nf pO pX pI fS mk0 pd0 v0 → rm_M V pa g np n c rm a st xsi xan K N Z D W P pO pX pI fP fI fO fA fH fG fN aS mk0 pd0 v0) (es : xsi = 0) {K' N' Z' fP' fI' fU' fR' fO' fA' fH' fG' fN' : Nat → Int32} {xfr' xno' xsi' xan' xrm' : Int32} (hK : ∀ s, V s ∨ s < 53 → K' s = K s ∧ N' s = N s ∧ Z' s = Z s)
    (hYw : ∀ (mk0 pd0 mk pd nd : Nat) (yhe yvm : Int32) (yin : Int64) (yfi yde yic : Int32) (ys : Nat → Int64) (yk yn yp yf iK iN : Nat → Int32) (o0 l0 kS0 d0 : Nat → Int32) (pl0 : Nat → Int64) (yma ypo yap yas yto : Int32) (yan : Int64) (yco yti yna yac yen : Int32) (o l kS d : Nat → Int32) (pl : Nat → Int64) (yo : Nat → Int32) (yi : Nat → Int64) (yw ya y1 y2 : Nat → Int32) (yK : Nat → Int64) (yW : Nat → Int32) (yL : Nat → Int64) (yq nm : Nat → Int32) (nv : Nat → Int64) (no : Nat → Int32) (yA lf rt : Nat → Int64), md_Y V pa g np n c rm a st mk pd nd mk0 pd0 xsi xan K N Z D W P pO pX pI fP fI fO fA fH fG fN aS yma ypo yap yas yto yan yco yti yna yac yen o l kS d pl yk yn yp yo yi yw ya y1 y2 yK yW yL yq nm nv no yA o0 l0 kS0 d0 pl0 → ∀ Q : SY → Prop, (∀ (ypo' yas' yto' : Int32) (yan' : Int64) (ya' y1' y2' : Nat → Int32) (yK' : Nat → Int64) (yW' : Nat → Int32) (yL' lf' rt' : Nat → Int64), Q (yma, ypo', yhe, yvm, yin, yfi, yde, yap, yas', yto', yan', yco, 1, yna, yac, yen, yic, o, l, kS, d, pl, ys, yk, yn, yp, yf, yo, yi, yw, ya', y1', y2', yK', yW', yL', yq, nm, nv, no, yA, lf', rt', iK, iN)) → wpY_start Q (yma, ypo, yhe, yvm, yin, yfi, yde, yap, yas, yto, yan, yco, yti, yna, yac, yen, yic, o, l, kS, d, pl, ys, yk, yn, yp, yf, yo, yi, yw, ya, y1, y2, yK, yW, yL, yq, nm, nv, no, yA, lf, rt, iK, iN) (nI g)) :
    rm_E T nf bo np K0 N0 Z0 D0 I0 W0 P0 (xst, xow, xin, xpa, xfi, xfr', xno', xsi', xan', xkn, 3, xco, xrm', xac, K', N', Z', D, Im, W, P, vS, pO, pX, pI, fS, fP', fI', fU', fR', fO', fA', fH', fG', fN', aS, qL, qR, qP) := by
  subst es
  obtain ⟨hg, hn, hst, hlen, _⟩ := mx_f hX
  have hX0 := hX
  obtain ⟨⟨x1, x2, x3, x4, x5, x6, x7, x8, x9, x10⟩, hs, hh, hb, hf, hr, hG, hpot⟩ := hX
  refine rm_end (xan := xan) (fI := fI) (fN := fN) (aS := aS) (a' := a) hX0 (by decide) x6 (by omega) hK (fun mk0 pd0 v0 hF => ?_)
  have hm := hM mk0 pd0 v0 hF
  obtain ⟨yma0, ypo0, yhe0, yvm0, yin0, yfi0, yde0, yap0, yas0, yto0, yan0, yco0, yti0, yna0, yac0, yen0, yic0, o0, l0, kS0, d0, pl0, ys0, yk0, yn0, yp0, yf0, yo0, yi0, yw0, ya0, y10, y20, yK0, yW0, yL0, yq0, nm0, nv0, no0, yA0, lf0, rt0, iK0, iN0⟩ := v0
  intro post hp
  refine hm.1 rfl post ⟨2, fun mk pd nd yma ypo yap yas yto yan yco yti yna yac yen o l kS d pl yo yi yw ya y1 y2 yK yW yL yq nm nv no yA lf rt hY => ?_⟩
  have hY0 := hY
  obtain ⟨⟨b1, b2, b3, b4, b5, b6, b7, b8, b9, b10, b11⟩, hfl, hen, hhy, hby, hfr, han, hq0, hq1, hz1, hz2, hz3⟩ := hY
  obtain ⟨ea, eq⟩ := hq0 rfl
  obtain ⟨c1, c2, c3, c4, c5, c6, c7⟩ := hhy
  refine ct_F b9 ea (by omega) eq.1 (hYw mk0 pd0 mk pd nd yhe0 yvm0 yin0 yfi0 yde0 yic0 ys0 yk0 yn0 yp0 yf0 iK0 iN0 o0 l0 kS0 d0 pl0 yma ypo yap yas yto yan yco yti yna yac yen o l kS d pl yo yi yw ya y1 y2 yK yW yL yq nm nv no yA lf rt hY0 _ (fun ypo' yas' yto' yan' ya' y1' y2' yK' yW' yL' lf' rt' => ?_))
  exact ct_tired rfl (hp mk pd (nI mk0) (nI pd0) yap yas' yto' yan' yco 1 yna yac 3 o l kS d pl yo yi yw ya' y1' y2' yK' yW' yL' yq nm nv no yA lf' rt' ⟨rfl, b4.trans x4.symm, b8.trans x6.symm, c1, c6, c7, han⟩)
theorem rm_tiredT {p : Nat} {pa' : List Nat} {T : List Nat → Option vv_L} {nf bo np : Nat} {K0 N0 Z0 D0 I0 W0 P0 : Nat → Int32} {xst xow xin xpa xfi xfr xno xsi xan xkn xen xco xrm xac : Int32} {K N Z D Im W P vS pO pX pI fS fP fI fU fR fO fA fH fG fN aS qL qR qP : Nat → Int32} {st : Nat} {V al : Nat → Prop} {g : Nat} {n c rm a : Nat}
    (hX : md_X V al g (p :: pa') bo np n c rm a st xfr xno xsi xen xco xrm xac K N Z D Im W P K0 N0 Z0 D0 I0 W0 P0 pO pX fP fU fR fO fA fH fG) (hv : mv_X V n xsi xan pO fP fI fH fN)
    (hM : ∀ (mk0 pd0 : Nat) (v0 : SY), kn_F T np nf pO pX pI fS mk0 pd0 v0 → rm_M V (p :: pa') g np n c rm a st xsi xan K N Z D W P pO pX pI fP fI fO fA fH fG fN aS mk0 pd0 v0) (es : xsi ≠ 0) {K' N' Z' fP' fI' fU' fR' fO' fA' fH' fG' fN' : Nat → Int32} {xfr' xno' xsi' xan' xrm' : Int32} (hK : ∀ s, V s ∨ s < 53 → K' s = K s ∧ N' s = N s ∧ Z' s = Z s)
    (hYw : ∀ (mk0 pd0 mk pd nd : Nat) (yhe yvm : Int32) (yin : Int64) (yfi yde yic : Int32) (ys : Nat → Int64) (yk yn yp yf iK iN : Nat → Int32) (o0 l0 kS0 d0 : Nat → Int32) (pl0 : Nat → Int64) (yma ypo yap yas yto : Int32) (yan : Int64) (yco yti yna yac yen : Int32) (o l kS d : Nat → Int32) (pl : Nat → Int64) (yo : Nat → Int32) (yi : Nat → Int64) (yw ya y1 y2 : Nat → Int32) (yK : Nat → Int64) (yW : Nat → Int32) (yL : Nat → Int64) (yq nm : Nat → Int32) (nv : Nat → Int64) (no : Nat → Int32) (yA lf rt : Nat → Int64), md_Y V (p :: pa') g np n c rm a st mk pd nd mk0 pd0 xsi xan K N Z D W P pO pX pI fP fI fO fA fH fG fN aS yma ypo yap yas yto yan yco yti yna yac yen o l kS d pl yk yn yp yo yi yw ya y1 y2 yK yW yL yq nm nv no yA o0 l0 kS0 d0 pl0 → ∀ Q : SY → Prop, (∀ (ypo' yas' yto' : Int32) (yan' : Int64) (ya' y1' y2' : Nat → Int32) (yK' : Nat → Int64) (yW' : Nat → Int32) (yL' lf' rt' : Nat → Int64), Q (yma, ypo', yhe, yvm, yin, yfi, yde, yap, yas', yto', yan', yco, 1, yna, yac, yen, yic, o, l, kS, d, pl, ys, yk, yn, yp, yf, yo, yi, yw, ya', y1', y2', yK', yW', yL', yq, nm, nv, no, yA, lf', rt', iK, iN)) → wpY_goOn Q (yma, ypo, yhe, yvm, yin, yfi, yde, yap, yas, yto, yan, yco, yti, yna, yac, yen, yic, o, l, kS, d, pl, ys, yk, yn, yp, yf, yo, yi, yw, ya, y1, y2, yK, yW, yL, yq, nm, nv, no, yA, lf, rt, iK, iN) (nI p)) :
    rm_E T nf bo np K0 N0 Z0 D0 I0 W0 P0 (xst, xow, xin, xpa, xfi, xfr', xno', xsi', xan', xkn, 3, xco, xrm', xac, K', N', Z', D, Im, W, P, vS, pO, pX, pI, fS, fP', fI', fU', fR', fO', fA', fH', fG', fN', aS, qL, qR, qP) := by
  obtain ⟨hg, hn, hst, hlen, _⟩ := mx_f hX
  have hX0 := hX
  obtain ⟨⟨x1, x2, x3, x4, x5, x6, x7, x8, x9, x10⟩, hs, hh, hb, hf, hr, hG, hpot⟩ := hX
  refine rm_end (xan := xan) (fI := fI) (fN := fN) (aS := aS) (a' := a) hX0 (by decide) x6 (by omega) hK (fun mk0 pd0 v0 hF => ?_)
  have hm := hM mk0 pd0 v0 hF
  obtain ⟨yma0, ypo0, yhe0, yvm0, yin0, yfi0, yde0, yap0, yas0, yto0, yan0, yco0, yti0, yna0, yac0, yen0, yic0, o0, l0, kS0, d0, pl0, ys0, yk0, yn0, yp0, yf0, yo0, yi0, yw0, ya0, y10, y20, yK0, yW0, yL0, yq0, nm0, nv0, no0, yA0, lf0, rt0, iK0, iN0⟩ := v0
  intro post hp
  refine hm.2 es post ⟨2, fun mk pd nd yma ypo yap yas yto yan yco yti yna yac yen o l kS d pl yo yi yw ya y1 y2 yK yW yL yq nm nv no yA lf rt hY => ?_⟩
  have hY0 := hY
  obtain ⟨⟨b1, b2, b3, b4, b5, b6, b7, b8, b9, b10, b11⟩, hfl, hen, hhy, hby, hfr, han, hq0, hq1, hz1, hz2, hz3⟩ := hY
  obtain ⟨ea, eq⟩ := hq1 es
  obtain ⟨c1, c2, c3, c4, c5, c6, c7⟩ := hhy
  have hl2 : pa'.length + 1 = (p :: pa').length := rfl
  refine ct_T b9 b5 (ea.trans (by rw [hl2])) (by omega) eq.1 (hYw mk0 pd0 mk pd nd yhe0 yvm0 yin0 yfi0 yde0 yic0 ys0 yk0 yn0 yp0 yf0 iK0 iN0 o0 l0 kS0 d0 pl0 yma ypo yap yas yto yan yco yti yna yac yen o l kS d pl yo yi yw ya y1 y2 yK yW yL yq nm nv no yA lf rt hY0 _ (fun ypo' yas' yto' yan' ya' y1' y2' yK' yW' yL' lf' rt' => ?_))
  exact ct_tired rfl (hp mk pd (nI mk0) (nI pd0) yap yas' yto' yan' yco 1 yna yac 3 o l kS d pl yo yi yw ya' y1' y2' yK' yW' yL' yq nm nv no yA lf' rt' ⟨rfl, b4.trans x4.symm, b8.trans x6.symm, c1, c6, c7, han⟩)
end
section
/-! ===== a value is made of the answers: for all states of Y ===== -/
theorem rm_make {p : Nat} {pa' : List Nat} {T : List Nat → Option vv_L} {nf bo np : Nat} {K0 N0 Z0 D0 I0 W0 P0 : Nat → Int32} {xst xow xin xpa xfi xfr xno xsi xan xkn xen xco xrm xac : Int32} {K N Z D Im W P vS pO pX pI fS fP fI fU fR fO fA fH fG fN aS qL qR qP : Nat → Int32} {st : Nat} {V al : Nat → Prop} {g : Nat} {n c rm a : Nat}
    (hX : md_X V al g (p :: pa') bo np n c rm a st xfr xno xsi xen xco xrm xac K N Z D Im W P K0 N0 Z0 D0 I0 W0 P0 pO pX fP fU fR fO fA fH fG) (hv : mv_X V n xsi xan pO fP fI fH fN)
    (hM : ∀ (mk0 pd0 : Nat) (v0 : SY), kn_F T np nf pO pX pI fS mk0 pd0 v0 → rm_M V (p :: pa') g np n c rm a st xsi xan K N Z D W P pO pX pI fP fI fO fA fH fG fN aS mk0 pd0 v0) (es : xsi = 1) (n16 : fr_o pO fP p ≠ 16) (n35 : fr_o pO fP p ≠ 35) {k rm' sl : Nat} {s' xan' : Int32} {V' : Nat → Prop} {K' N' Z' D' Im' W' P' qL' qR' qP' : Nat → Int32} (hk : 1 ≤ k) (hk2 : k ≤ 2) (hs' : s' = 1 ∨ s' = 2 ∨ s' = 3) (hc : c < 600)
    (hrm : rm' = rm ∨ rm' = rm + 1)
    (hgr : gr_X V V' sl K N Z D Im W P K' N' Z' D' Im' W' P') (hhs : V' sl → sl < 53 + rm') (hhs2 : 53 + rm ≤ sl) (hsl : sl < 2 ^ 31)
    (hxv : s' = 1 → ∃ s, xan' = nI s ∧ V' s)
    (hYw : ∀ (mk0 pd0 mk pd nd : Nat) (yhe yvm : Int32) (yin : Int64) (yfi yde yic : Int32) (ys : Nat → Int64) (yk yn yp yf iK iN : Nat → Int32) (o0 l0 kS0 d0 : Nat → Int32) (pl0 : Nat → Int64) (yma ypo yap yas yto : Int32) (yan : Int64) (yco yti yna yac yen : Int32) (o l kS d : Nat → Int32) (pl : Nat → Int64) (yo : Nat → Int32) (yi : Nat → Int64) (yw ya y1 y2 : Nat → Int32) (yK : Nat → Int64) (yW : Nat → Int32) (yL : Nat → Int64) (yq nm : Nat → Int32) (nv : Nat → Int64) (no : Nat → Int32) (yA lf rt : Nat → Int64), md_Y V (p :: pa') g np n c rm a st mk pd nd mk0 pd0 xsi xan K N Z D W P pO pX pI fP fI fO fA fH fG fN aS yma ypo yap yas yto yan yco yti yna yac yen o l kS d pl yk yn yp yo yi yw ya y1 y2 yK yW yL yq nm nv no yA o0 l0 kS0 d0 pl0 → ∀ Q : SY → Prop, (∀ (mk' pd' : Nat) (o' l' kS' d' : Nat → Int32) (pl' lf' rt' : Nat → Int64) (w : Int64), gr_Y mk pd mk' pd' o l kS d o' l' kS' d' pl pl' → mk' + rm ≤ mk + rm' → pd' ≤ 400 + 10 * rm' → (∀ j x, mk ≤ j → j < mk' → o' j = nI x → x < 2 ^ 31 → pd ≤ x) →
      (s' = 1 → vv_R V' K' N' Z' D' P' mk' o' l' kS' d' pl' xan' w) →
      Q ((nI mk'), (nI pd'), yhe, yvm, yin, yfi, yde, yap, (nI pa'.length), (s' - 1), w, (nI (c + 1)), yti, yna, yac, yen, yic, o', l', kS', d', pl', ys, yk, yn, yp, yf, yo, yi, yw, ya, y1, y2, yK, yW, yL, yq, nm, nv, no, yA, lf', rt', iK, iN)) → wpY_goOn Q (yma, ypo, yhe, yvm, yin, yfi, yde, yap, yas, yto, yan, yco, yti, yna, yac, yen, yic, o, l, kS, d, pl, ys, yk, yn, yp, yf, yo, yi, yw, ya, y1, y2, yK, yW, yL, yq, nm, nv, no, yA, lf, rt, iK, iN) (nI p)) :
    rm_I T nf bo np K0 N0 Z0 D0 I0 W0 P0 (st + k) (xst, xow, xin, xpa, xfi, xfr, (nI p), s', xan', xkn, xen, (nI (c + 1)), (nI rm'), xac, K', N', Z', D', Im', W', P', vS, pO, pX, pI, fS, fP, fI, fU, fR, fO, fA, fH, fG, fN, aS, qL', qR', qP') := by
  subst es
  obtain ⟨hg, hn, hst, hlen, _⟩ := mx_f hX
  obtain ⟨⟨x1, x2, x3, x4, x5, x6, x7, x8, x9, x10⟩, hs, hh, hb, hf, hr, hG, hpot⟩ := hX
  have ns0 : ¬ s' = 0 := by rcases hs' with w | w | w <;> rw [w] <;> decide
  have hpc := fr_pa_lt _ _ hf.2.2.1 p List.mem_cons_self
  rw [List.length_cons] at hlen hpot
  have hal : al g := hf.2.2.2.1 g List.mem_cons_self
  have hAp : fA p = nI g := hf.2.2.1.2.2.1
  have hgl : g ∉ p :: pa' := fun w => by have := fr_pa_lt _ _ hf.2.2.1 g w; omega
  have hbH : ∀ f, f < n → fr_o pO fP f = 16 → fA f ≠ -1 → fG f = 0 → ∃ x, fH f = nI x ∧ x < 53 + rm := fun f hf' o16 hA' hG' => by
    obtain ⟨x, z, a1, a2, a3, _⟩ := hb.1 f hf' o16 hA' hG'
    exact ⟨x, a1, a3⟩
  have hS2 : rm ≤ 600 := by omega
  have hrr : rm ≤ rm' := by omega
  have hfx : fr_X pO pX np n fP fU fR fO fA fG al (p :: pa') True := by
    refine fr_X_rest (fr_X_pop (fr_X_m hf (fun _ => Or.inr rfl))) ⟨fun w => w.1.elim n16 n35, fun _ _ _ => ?_⟩
    rw [hAp, nI_clamp (by omega)]
    exact ⟨hal, hgl⟩
  have hbx := gr_bx (rm' := rm') hgr hb hrr (fun f hf' o16 hA' hG' e => by
    obtain ⟨x, a1, a3⟩ := hbH f hf' o16 hA' hG'
    rw [a1] at e
    have := (nI_eq (by omega) hsl).mp e
    omega)
  refine ⟨V', al, p, pa', n, c + 1, rm', a, ⟨⟨x1, rfl, x3, rfl, rfl, x6, x7, by omega, by omega, x10⟩, Or.inr hs', gr_hx hgr hh hrr hhs, hbx, fr_X_m hfx (fun _ => trivial), by omega, fun f hf' => ?_, ?_⟩, ⟨hxv, fun f hf' => ?_⟩, fun mk0 pd0 v0 hF => ?_⟩
  · obtain ⟨gv', e1, e2⟩ := hG f hf'
    exact ⟨gv', e1, by omega⟩
  · rw [md_ph_1] at hpot
    rcases hs' with w | w | w
    · rw [w, md_ph_1]; omega
    · rw [w, md_ph_2]; omega
    · rw [w, md_ph_3]; omega
  · obtain ⟨q1, q2, q3⟩ := hv.2 f hf'
    have up : ∀ y : Int32, (∃ s, y = nI s ∧ V s) → ∃ s, y = nI s ∧ V' s := fun y hy => by
      obtain ⟨s, s1, s2⟩ := hy
      exact ⟨s, s1, hgr.2.2.1 s s2⟩
    exact ⟨up _ q1, fun z => up _ (q2 z), fun x hx => up _ (q3 x hx)⟩
  · have hm := hM mk0 pd0 v0 hF
    obtain ⟨yma0, ypo0, yhe0, yvm0, yin0, yfi0, yde0, yap0, yas0, yto0, yan0, yco0, yti0, yna0, yac0, yen0, yic0, o0, l0, kS0, d0, pl0, ys0, yk0, yn0, yp0, yf0, yo0, yi0, yw0, ya0, y10, y20, yK0, yW0, yL0, yq0, nm0, nv0, no0, yA0, lf0, rt0, iK0, iN0⟩ := v0
    refine ⟨fun w => absurd w ns0, fun _ post hp => ?_⟩
    obtain ⟨m, hp⟩ := hp
    refine hm.2 (by decide) post ⟨m + 1, fun mk pd nd yma ypo yap yas yto yan yco yti yna yac yen o l kS d pl yo yi yw ya y1 y2 yK yW yL yq nm nv no yA lf rt hY => ?_⟩
    have hY0 := hY
    obtain ⟨⟨b1, b2, b3, b4, b5, b6, b7, b8, b9, b10, b11⟩, hfl, hen, hhy, hby, hfr, han, hq0, hq1, hz1, hz2, hz3⟩ := hY
    obtain ⟨ea, eq⟩ := hq1 (by decide)
    rw [List.length_cons] at ea
    refine ct_T b9 b5 ea (by omega) eq.1 (hYw mk0 pd0 mk pd nd yhe0 yvm0 yin0 yfi0 yde0 yic0 ys0 yk0 yn0 yp0 yf0 iK0 iN0 o0 l0 kS0 d0 pl0 yma ypo yap yas yto yan yco yti yna yac yen o l kS d pl yo yi yw ya y1 y2 yK yW yL yq nm nv no yA lf rt hY0 _ (fun mk' pd' o' l' kS' d' pl' lf' rt' w u1 u2 u3 u4 u5 => ?_))
    have hRR := gr_R hh.1 hhy.1 hgr u1
    refine ct_told ea (by omega) rfl (hp mk' pd' nd (nI mk') (nI pd') yap (nI pa'.length) (s' - 1) w (nI (c + 1)) yti yna yac yen o' l' kS' d' pl' yo yi yw ya y1 y2 yK yW yL yq nm nv no yA lf' rt' ⟨⟨rfl, rfl, b3, rfl, b5, b6, b7, b8, b9, b10, b11.1, by have := b11.2; omega⟩, hfl, hen, gr_hy u1 hhy (by have := hhy.2.2.1; omega) u3, ?_, fun f hf' => ?_, fun i hi => hRR _ _ (han i hi), fun w => absurd w ns0, fun _ => ⟨rfl, eq.2⟩, fun e => ⟨by rw [e]; decide, u5 e⟩, fun e => by rw [e]; decide, fun e => by rw [e]; decide⟩)
    · exact gr_by hgr u1 hRR hby hhy.1 (fun f hf' o16 hA' hG' => by
        obtain ⟨x, a1, a3⟩ := hbH f hf' o16 hA' hG'
        exact ⟨x, a1, by omega, by omega⟩) u4
    · obtain ⟨t1, t2, t3, t4, t5⟩ := hfr f hf'
      exact ⟨t1, hRR _ _ t2, t3, fun x hx => (t4 x hx).elim (fun z => Or.inl (hRR _ _ z)) Or.inr, gr_S hh.1 hhy.1 hgr u1 (by omega) t2 t5⟩
end
section
/-! ===== an answer is taken in, and the same filter within is asked again: for all states of Y ===== -/
theorem rm_turn {p : Nat} {pa' : List Nat} {T : List Nat → Option vv_L} {nf bo np : Nat} {K0 N0 Z0 D0 I0 W0 P0 : Nat → Int32} {xst xow xin xpa xfi xfr xno xsi xan xkn xen xco xrm xac : Int32} {K N Z D Im W P vS pO pX pI fS fP fI fU fR fO fA fH fG fN aS qL qR qP : Nat → Int32} {st : Nat} {V al : Nat → Prop} {g : Nat} {n c rm a : Nat}
    (hX : md_X V al g (p :: pa') bo np n c rm a st xfr xno xsi xen xco xrm xac K N Z D Im W P K0 N0 Z0 D0 I0 W0 P0 pO pX fP fU fR fO fA fH fG) (hv : mv_X V n xsi xan pO fP fI fH fN)
    (hM : ∀ (mk0 pd0 : Nat) (v0 : SY), kn_F T np nf pO pX pI fS mk0 pd0 v0 → rm_M V (p :: pa') g np n c rm a st xsi xan K N Z D W P pO pX pI fP fI fO fA fH fG fN aS mk0 pd0 v0) (es : xsi = 1) {k sl : Nat} {xan' h' : Int32} {K' N' Z' D' Im' W' P' : Nat → Int32} (hk : 1 ≤ k) (hk2 : k ≤ 2)
    (hgr : gr_X V V sl K N Z D Im W P K' N' Z' D' Im' W' P') (hbx : md_bx V rm n pO fP fA (upd fH p h') fG K' N' Z' D' P') (hxh : fr_o pO fP p ≠ 16 → ∃ s, h' = nI s ∧ V s)
    (hYw : ∀ (mk0 pd0 mk pd nd : Nat) (yhe yvm : Int32) (yin : Int64) (yfi yde yic : Int32) (ys : Nat → Int64) (yk yn yp yf iK iN : Nat → Int32) (o0 l0 kS0 d0 : Nat → Int32) (pl0 : Nat → Int64) (yma ypo yap yas yto : Int32) (yan : Int64) (yco yti yna yac yen : Int32) (o l kS d : Nat → Int32) (pl : Nat → Int64) (yo : Nat → Int32) (yi : Nat → Int64) (yw ya y1 y2 : Nat → Int32) (yK : Nat → Int64) (yW : Nat → Int32) (yL : Nat → Int64) (yq nm : Nat → Int32) (nv : Nat → Int64) (no : Nat → Int32) (yA lf rt : Nat → Int64), md_Y V (p :: pa') g np n c rm a st mk pd nd mk0 pd0 xsi xan K N Z D W P pO pX pI fP fI fO fA fH fG fN aS yma ypo yap yas yto yan yco yti yna yac yen o l kS d pl yk yn yp yo yi yw ya y1 y2 yK yW yL yq nm nv no yA o0 l0 kS0 d0 pl0 → ∀ Q : SY → Prop, (∀ (yto' : Int32) (w : Int64) (pl' : Nat → Int64) (yW' : Nat → Int32) (yK' yL' : Nat → Int64), (∀ s w, vv_R V K N Z D P mk o l kS d pl s w → vv_R V K' N' Z' D' P' mk o l kS d pl' s w) → vv_cy mk pd o l pl' → (∀ i, i < pd0 → pl' i = pl i) →
      md_by (vv_R V K' N' Z' D' P' mk o l kS d pl') n mk pd pd0 pO fP fA (upd fH p h') fG Z' P' o l ya yW' pl' → (∀ f, f ≠ p → yW' f = yW f ∧ yK' f = yK f ∧ yL' f = yL f) →
      fr_S (vv_R V K' N' Z' D' P' mk o l kS d pl') (md_ea Z') (md_dp Z' W' P') (fr_o pO fP p) (pX (fP p).toNatClampNeg) (st + k) (fI p) (fG p) (fA p) (fO p) h' (ya p) (y1 p) (y2 p) (yW' p) (yK' p) (yL' p) →
      Q (yma, ypo, yhe, yvm, yin, yfi, yde, yap, (nI (pa'.length + 2)), yto', w, yco, yti, yna, yac, yen, yic, o, l, kS, d, pl', ys, yk, yn, yp, yf, yo, yi, yw, ya, y1, y2, yK', yW', yL', (upd yq (pa'.length + 1) (nI g)), nm, nv, no, yA, lf, rt, iK, iN)) → wpY_goOn Q (yma, ypo, yhe, yvm, yin, yfi, yde, yap, yas, yto, yan, yco, yti, yna, yac, yen, yic, o, l, kS, d, pl, ys, yk, yn, yp, yf, yo, yi, yw, ya, y1, y2, yK, yW, yL, yq, nm, nv, no, yA, lf, rt, iK, iN) (nI p)) :
    rm_I T nf bo np K0 N0 Z0 D0 I0 W0 P0 (st + k) (xst, xow, xin, xpa, xfi, xfr, (nI g), 0, xan', xkn, xen, xco, xrm, xac, K', N', Z', D', Im', W', P', vS, pO, pX, pI, fS, fP, fI, fU, fR, fO, fA, (upd fH p h'), fG, fN, aS, qL, qR, qP) := by
  subst es
  obtain ⟨hg, hn, hst, hlen, _⟩ := mx_f hX
  obtain ⟨⟨x1, x2, x3, x4, x5, x6, x7, x8, x9, x10⟩, hs, hh, hb, hf, hr, hG, hpot⟩ := hX
  rw [List.length_cons] at hlen
  refine ⟨V, al, g, p :: pa', n, c, rm, a, ⟨⟨x1, rfl, x3, x4, x5, x6, x7, x8, x9, x10⟩, Or.inl rfl, gr_hx hgr hh (Nat.le_refl _) (fun w => absurd w hgr.1), hbx, fr_X_m hf (fun _ => Or.inr rfl), hr, fun f hf' => ?_, ?_⟩, ⟨fun w => absurd w (by decide), fun f hf' => ?_⟩, fun mk0 pd0 v0 hF => ?_⟩
  · obtain ⟨gv', e1, e2⟩ := hG f hf'
    exact ⟨gv', e1, by omega⟩
  · rw [md_ph_1] at hpot
    rw [md_ph_0]
    omega
  · obtain ⟨q1, q2, q3⟩ := hv.2 f hf'
    refine ⟨q1, fun z => ?_, q3⟩
    by_cases e : f = p
    · subst e
      rw [pk_us]
      exact hxh z
    · rw [pk_un e]
      exact q2 z
  · have hm := hM mk0 pd0 v0 hF
    obtain ⟨yma0, ypo0, yhe0, yvm0, yin0, yfi0, yde0, yap0, yas0, yto0, yan0, yco0, yti0, yna0, yac0, yen0, yic0, o0, l0, kS0, d0, pl0, ys0, yk0, yn0, yp0, yf0, yo0, yi0, yw0, ya0, y10, y20, yK0, yW0, yL0, yq0, nm0, nv0, no0, yA0, lf0, rt0, iK0, iN0⟩ := v0
    refine ⟨fun _ post hp => ?_, fun w => absurd rfl w⟩
    obtain ⟨m, hp⟩ := hp
    refine hm.2 (by decide) post ⟨m + 1, fun mk pd nd yma ypo yap yas yto yan yco yti yna yac yen o l kS d pl yo yi yw ya y1 y2 yK yW yL yq nm nv no yA lf rt hY => ?_⟩
    have hY0 := hY
    obtain ⟨⟨b1, b2, b3, b4, b5, b6, b7, b8, b9, b10, b11⟩, hfl, hen, hhy, hby, hfr, han, hq0, hq1, hz1, hz2, hz3⟩ := hY
    obtain ⟨ea, eq⟩ := hq1 (by decide)
    rw [List.length_cons] at ea
    refine ct_T b9 b5 ea (by omega) eq.1 (hYw mk0 pd0 mk pd nd yhe0 yvm0 yin0 yfi0 yde0 yic0 ys0 yk0 yn0 yp0 yf0 iK0 iN0 o0 l0 kS0 d0 pl0 yma ypo yap yas yto yan yco yti yna yac yen o l kS d pl yo yi yw ya y1 y2 yK yW yL yq nm nv no yA lf rt hY0 _ (fun yto' w pl' yW' yK' yL' u1 u2 u3 u4 u5 u6 => ?_))
    obtain ⟨c1, c2, c3, c4, c5, c6, c7⟩ := hhy
    refine ct_asked ea (by omega) rfl b5 (hp mk pd nd yma ypo yap (nI (pa'.length + 2)) yto' w yco yti yna yac yen o l kS d pl' yo yi yw ya y1 y2 yK' yW' yL' (upd yq (pa'.length + 1) (nI g)) nm nv no yA lf rt ⟨⟨b1, b2, b3, b4, b5, b6, b7, b8, b9, b10, b11⟩, hfl, hen, ⟨u2, c2, c3, c4, c5, c6, fun i hi => (u3 i hi).trans (c7 i hi)⟩, u4, fun f hf' => ?_, fun i hi => u1 _ _ (han i hi), fun _ => ⟨rfl, pk_us, md_qu eq (by rw [List.length_cons]; exact Nat.le_refl _)⟩, fun w => absurd rfl w, fun w => absurd w (by decide), fun w => absurd w (by decide), fun w => absurd w (by decide)⟩)
    obtain ⟨t1, t2, t3, t4, t5⟩ := hfr f hf'
    refine ⟨t1, u1 _ _ t2, t3, fun x hx => (t4 x hx).elim (fun z => Or.inl (u1 _ _ z)) Or.inr, ?_⟩
    by_cases e : f = p
    · subst e
      rw [pk_us]
      exact u6
    · rw [pk_un e, (u5 f e).1, (u5 f e).2.1, (u5 f e).2.2]
      exact fr_S_up u1 (fun n w => gr_ea hgr t2 n w) (fun n m w => gr_dp hh.1 hgr t2 n m w) (by omega) t5
end
section
/-! ===== a later filter within has ended, the first is asked again: for all states of Y ===== -/
theorem rm_back {p : Nat} {pa' : List Nat} {T : List Nat → Option vv_L} {nf bo np : Nat} {K0 N0 Z0 D0 I0 W0 P0 : Nat → Int32} {xst xow xin xpa xfi xfr xno xsi xan xkn xen xco xrm xac : Int32} {K N Z D Im W P vS pO pX pI fS fP fI fU fR fO fA fH fG fN aS qL qR qP : Nat → Int32} {st : Nat} {V al : Nat → Prop} {g : Nat} {n c rm a : Nat}
    (hX : md_X V al g (p :: pa') bo np n c rm a st xfr xno xsi xen xco xrm xac K N Z D Im W P K0 N0 Z0 D0 I0 W0 P0 pO pX fP fU fR fO fA fH fG) (hv : mv_X V n xsi xan pO fP fI fH fN)
    (hM : ∀ (mk0 pd0 : Nat) (v0 : SY), kn_F T np nf pO pX pI fS mk0 pd0 v0 → rm_M V (p :: pa') g np n c rm a st xsi xan K N Z D W P pO pX pI fP fI fO fA fH fG fN aS mk0 pd0 v0) (es : xsi = 2) (n16 : fr_o pO fP p ≠ 16) (n22 : fr_o pO fP p ≠ 22) (n32 : fr_o pO fP p ≠ 32) {k ch : Nat} {xan' : Int32} (hk : 1 ≤ k) (hk2 : k ≤ 2) (hO : fO p = nI ch) (hch : ch < 600) (hne : ch ≠ g)
    (hYw : ∀ (mk0 pd0 mk pd nd : Nat) (yhe yvm : Int32) (yin : Int64) (yfi yde yic : Int32) (ys : Nat → Int64) (yk yn yp yf iK iN : Nat → Int32) (o0 l0 kS0 d0 : Nat → Int32) (pl0 : Nat → Int64) (yma ypo yap yas yto : Int32) (yan : Int64) (yco yti yna yac yen : Int32) (o l kS d : Nat → Int32) (pl : Nat → Int64) (yo : Nat → Int32) (yi : Nat → Int64) (yw ya y1 y2 : Nat → Int32) (yK : Nat → Int64) (yW : Nat → Int32) (yL : Nat → Int64) (yq nm : Nat → Int32) (nv : Nat → Int64) (no : Nat → Int32) (yA lf rt : Nat → Int64), md_Y V (p :: pa') g np n c rm a st mk pd nd mk0 pd0 xsi xan K N Z D W P pO pX pI fP fI fO fA fH fG fN aS yma ypo yap yas yto yan yco yti yna yac yen o l kS d pl yk yn yp yo yi yw ya y1 y2 yK yW yL yq nm nv no yA o0 l0 kS0 d0 pl0 → ∀ Q : SY → Prop, (∀ (yto' : Int32) (w : Int64) (ya' y2' yW' : Nat → Int32) (yK' yL' : Nat → Int64), (∀ f, f ≠ p → ya' f = ya f ∧ y2' f = y2 f ∧ yW' f = yW f ∧ yK' f = yK f ∧ yL' f = yL f) →
      fr_S (vv_R V K N Z D P mk o l kS d pl) (md_ea Z) (md_dp Z W P) (fr_o pO fP p) (pX (fP p).toNatClampNeg) (st + k) (fI p) (fG p) (fO p) (fO p) (fH p) (ya' p) (y1 p) (y2' p) (yW' p) (yK' p) (yL' p) →
      Q (yma, ypo, yhe, yvm, yin, yfi, yde, yap, (nI (pa'.length + 2)), yto', w, yco, yti, yna, yac, yen, yic, o, l, kS, d, pl, ys, yk, yn, yp, yf, yo, yi, yw, ya', y1, y2', yK', yW', yL', (upd yq (pa'.length + 1) (nI ch)), nm, nv, no, yA, lf, rt, iK, iN)) → wpY_goOn Q (yma, ypo, yhe, yvm, yin, yfi, yde, yap, yas, yto, yan, yco, yti, yna, yac, yen, yic, o, l, kS, d, pl, ys, yk, yn, yp, yf, yo, yi, yw, ya, y1, y2, yK, yW, yL, yq, nm, nv, no, yA, lf, rt, iK, iN) (nI p)) :
    rm_I T nf bo np K0 N0 Z0 D0 I0 W0 P0 (st + k) (xst, xow, xin, xpa, xfi, xfr, (nI ch), 0, xan', xkn, xen, xco, xrm, xac, K, N, Z, D, Im, W, P, vS, pO, pX, pI, fS, fP, fI, fU, fR, fO, (upd fA p (fO p)), fH, fG, fN, aS, qL, qR, qP) := by
  subst es
  obtain ⟨hg, hn, hst, hlen, _⟩ := mx_f hX
  obtain ⟨⟨x1, x2, x3, x4, x5, x6, x7, x8, x9, x10⟩, hs, hh, hb, hf, hr, hG, hpot⟩ := hX
  rw [List.length_cons] at hlen
  have hf0 := hf
  obtain ⟨h0, h1, h2, h3, h4, h5, h6⟩ := hf
  have hpc := fr_pa_lt _ _ h2 p List.mem_cons_self
  have hpn : p < n := by omega
  have hAp : fA p = nI g := h2.2.2.1
  have hrun : fr_run pO pX fP fG p := h2.2.2.2.1
  have hAO : fA p ≠ fO p := fun e => hne ((nI_eq (by omega) (by omega)).mp (hO.symm.trans (e.symm.trans hAp)))
  have hO1 : fO p ≠ -1 := by rw [hO]; exact fr_n1 hch
  have halp : al p := h3 p (List.mem_cons_of_mem _ List.mem_cons_self)
  obtain ⟨hac, hcl⟩ := h6 p halp n22 n32 hAO hO1
  rw [hO, nI_clamp (by omega)] at hac hcl
  have hkid : p < ch ∧ fU ch = nI p := by
    obtain ⟨_, k2, _⟩ := h1 p hpn
    rcases k2 with k2 | k2
    · exact absurd k2 hO1
    · obtain ⟨⟨c', e1, e2, e3, e4, e5⟩, _⟩ := k2
      have : c' = ch := (nI_eq (by omega) (by omega)).mp (e1.symm.trans hO)
      subst this
      exact ⟨e2, e4⟩
  have hfx := fr_X_push (c := ch) (fr_X_A (fr_X_kill hf0) hO1) (by rw [pk_us]; exact hO) ⟨hac, hne⟩ (fun w => hcl (List.mem_cons_of_mem _ w)) hrun hkid.1 hkid.2
  have ne : ∀ f, fr_o pO fP f = 16 → f ≠ p := fun f hf e => n16 (by rw [← e]; exact hf)
  have w2e : ∀ f, f < n → md_w2 (upd fA p (fO p)) fG f = md_w2 fA fG f := fun f _ => by
    unfold md_w2
    by_cases e : f = p
    · subst e
      rw [pk_us, if_neg (fun z => hO1 z.2), if_neg (fun z => by rw [hAp] at z; exact fr_n1 (by omega) z.2)]
    · rw [pk_un e]
  refine ⟨V, _, ch, p :: pa', n, c, rm, a, ⟨⟨x1, rfl, x3, x4, x5, x6, x7, x8, x9, x10⟩, Or.inl rfl, hh, ?_, fr_X_m hfx (fun _ => trivial), ?_, fun f hf' => ?_, ?_⟩, mv_up hv (fun w => absurd w (by decide)), fun mk0 pd0 v0 hF => ?_⟩
  · obtain ⟨q1, q2⟩ := hb
    refine ⟨fun f hf o16 hA hG => q1 f hf o16 (by rw [pk_un (ne f o16)] at hA; exact hA) hG, fun f f' hf hf' hne o1 a1 g1 o2 a2 g2 => q2 f f' hf hf' hne o1 (by rw [pk_un (ne f o1)] at a1; exact a1) g1 o2 (by rw [pk_un (ne f' o2)] at a2; exact a2) g2⟩
  · rw [vv_sm_c _ w2e]
    exact hr
  · obtain ⟨gv', e1, e2⟩ := hG f hf'
    exact ⟨gv', e1, by omega⟩
  · have q := ct_u (w := md_w1 fO fA fG) (w' := md_w1 fO (upd fA p (fO p)) fG) hpn (fun f _ hne => by unfold md_w1; rw [pk_un hne])
    have q2 : md_w1 fO fA fG p = md_w1 fO (upd fA p (fO p)) fG p + 1 := by
      unfold md_w1
      rw [pk_us, if_pos rfl, if_neg hAO]
    rw [md_ph_2] at hpot
    rw [md_ph_0]
    omega
  · have hm := hM mk0 pd0 v0 hF
    obtain ⟨yma0, ypo0, yhe0, yvm0, yin0, yfi0, yde0, yap0, yas0, yto0, yan0, yco0, yti0, yna0, yac0, yen0, yic0, o0, l0, kS0, d0, pl0, ys0, yk0, yn0, yp0, yf0, yo0, yi0, yw0, ya0, y10, y20, yK0, yW0, yL0, yq0, nm0, nv0, no0, yA0, lf0, rt0, iK0, iN0⟩ := v0
    refine ⟨fun _ post hp => ?_, fun w => absurd rfl w⟩
    obtain ⟨m, hp⟩ := hp
    refine hm.2 (by decide) post ⟨m + 1, fun mk pd nd yma ypo yap yas yto yan yco yti yna yac yen o l kS d pl yo yi yw ya y1 y2 yK yW yL yq nm nv no yA lf rt hY => ?_⟩
    have hY0 := hY
    obtain ⟨⟨b1, b2, b3, b4, b5, b6, b7, b8, b9, b10, b11⟩, hfl, hen, hhy, hby, hfr, han, hq0, hq1, hz1, hz2, hz3⟩ := hY
    obtain ⟨ea, eq⟩ := hq1 (by decide)
    rw [List.length_cons] at ea
    refine ct_T b9 b5 ea (by omega) eq.1 (hYw mk0 pd0 mk pd nd yhe0 yvm0 yin0 yfi0 yde0 yic0 ys0 yk0 yn0 yp0 yf0 iK0 iN0 o0 l0 kS0 d0 pl0 yma ypo yap yas yto yan yco yti yna yac yen o l kS d pl yo yi yw ya y1 y2 yK yW yL yq nm nv no yA lf rt hY0 _ (fun yto' w ya' y2' yW' yK' yL' u5 u6 => ?_))
    refine ct_asked ea (by omega) rfl b5 (hp mk pd nd yma ypo yap (nI (pa'.length + 2)) yto' w yco yti yna yac yen o l kS d pl yo yi yw ya' y1 y2' yK' yW' yL' (upd yq (pa'.length + 1) (nI ch)) nm nv no yA lf rt ⟨⟨b1, b2, b3, b4, b5, b6, b7, b8, b9, b10, b11.1, by rw [md_w3_A n16]; exact b11.2⟩, hfl, hen, hhy, ?_, fun f hf' => ?_, han, fun _ => ⟨rfl, pk_us, md_qu eq (by rw [List.length_cons]; exact Nat.le_refl _)⟩, fun w => absurd rfl w, fun w => absurd w (by decide), fun w => absurd w (by decide), fun w => absurd w (by decide)⟩)
    · obtain ⟨q1, q2⟩ := hby
      refine ⟨fun f hf' o16 hA' => ?_, fun f f' a1 a2 h1 h2 hne o1 A1 o2 A2 e1 e2 => ?_⟩
      · rw [pk_un (ne f o16)] at hA'
        rw [(u5 f (ne f o16)).1, (u5 f (ne f o16)).2.2.1]
        exact q1 f hf' o16 hA'
      · rw [pk_un (ne f o1)] at A1
        rw [pk_un (ne f' o2)] at A2
        rw [(u5 f (ne f o1)).1] at e1
        rw [(u5 f' (ne f' o2)).1] at e2
        exact q2 f f' a1 a2 h1 h2 hne o1 A1 o2 A2 e1 e2
    · obtain ⟨t1, t2, t3, t4, t5⟩ := hfr f hf'
      refine ⟨t1, t2, t3, t4, ?_⟩
      by_cases e : f = p
      · subst e
        rw [pk_us]
        exact u6
      · rw [pk_un e, (u5 f e).1, (u5 f e).2.1, (u5 f e).2.2.1, (u5 f e).2.2.2.1, (u5 f e).2.2.2.2]
        exact fr_S_up (fun _ _ w => w) (fun _ w => w) (fun _ _ w => w) (by omega) t5
end
section
/-! ===== 'all' or a fold gives what it has: for all states of Y ===== -/
theorem rm_give {p : Nat} {pa' : List Nat} {T : List Nat → Option vv_L} {nf bo np : Nat} {K0 N0 Z0 D0 I0 W0 P0 : Nat → Int32} {xst xow xin xpa xfi xfr xno xsi xan xkn xen xco xrm xac : Int32} {K N Z D Im W P vS pO pX pI fS fP fI fU fR fO fA fH fG fN aS qL qR qP : Nat → Int32} {st : Nat} {V al : Nat → Prop} {g : Nat} {n c rm a : Nat}
    (hX : md_X V al g (p :: pa') bo np n c rm a st xfr xno xsi xen xco xrm xac K N Z D Im W P K0 N0 Z0 D0 I0 W0 P0 pO pX fP fU fR fO fA fH fG) (hv : mv_X V n xsi xan pO fP fI fH fN)
    (hM : ∀ (mk0 pd0 : Nat) (v0 : SY), kn_F T np nf pO pX pI fS mk0 pd0 v0 → rm_M V (p :: pa') g np n c rm a st xsi xan K N Z D W P pO pX pI fP fI fO fA fH fG fN aS mk0 pd0 v0) (es : xsi = 2) (ho : fr_o pO fP p = 16 ∨ fr_o pO fP p = 35) {sl : Nat} {xan' : Int32} {V' : Nat → Prop} {K' N' Z' D' Im' W' P' : Nat → Int32}
    (hgr : gr_X V V' sl K N Z D Im W P K' N' Z' D' Im' W' P') (hhs : V' sl → sl < 53 + rm) (hbs : ∀ f, f < n → f ≠ p → fr_o pO fP f = 16 → fA f ≠ -1 → fG f = 0 → fH f ≠ nI sl)
    (hxv : ∃ s, xan' = nI s ∧ V' s)
    (hYw : ∀ (mk0 pd0 mk pd nd : Nat) (yhe yvm : Int32) (yin : Int64) (yfi yde yic : Int32) (ys : Nat → Int64) (yk yn yp yf iK iN : Nat → Int32) (o0 l0 kS0 d0 : Nat → Int32) (pl0 : Nat → Int64) (yma ypo yap yas yto : Int32) (yan : Int64) (yco yti yna yac yen : Int32) (o l kS d : Nat → Int32) (pl : Nat → Int64) (yo : Nat → Int32) (yi : Nat → Int64) (yw ya y1 y2 : Nat → Int32) (yK : Nat → Int64) (yW : Nat → Int32) (yL : Nat → Int64) (yq nm : Nat → Int32) (nv : Nat → Int64) (no : Nat → Int32) (yA lf rt : Nat → Int64), md_Y V (p :: pa') g np n c rm a st mk pd nd mk0 pd0 xsi xan K N Z D W P pO pX pI fP fI fO fA fH fG fN aS yma ypo yap yas yto yan yco yti yna yac yen o l kS d pl yk yn yp yo yi yw ya y1 y2 yK yW yL yq nm nv no yA o0 l0 kS0 d0 pl0 → ∀ Q : SY → Prop, (∀ (mk' pd' : Nat) (o' l' kS' d' : Nat → Int32) (pl' : Nat → Int64) (ya' yW' : Nat → Int32) (yK' yL' : Nat → Int64) (w : Int64), gr_Y mk pd mk' pd' o l kS d o' l' kS' d' pl pl' → (mk' = mk ∨ (fr_o pO fP p = 16 ∧ mk' = mk + 1)) → pd' ≤ 400 + 10 * rm →
      vv_R V' K' N' Z' D' P' mk' o' l' kS' d' pl' xan' w → (∀ f, f ≠ p → ya' f = ya f ∧ yW' f = yW f ∧ yK' f = yK f ∧ yL' f = yL f) →
      md_by (vv_R V' K' N' Z' D' P' mk' o' l' kS' d' pl') n mk' pd' pd0 pO fP fA fH (upd fG p 1) Z' P' o' l' ya' yW' pl' →
      fr_S (vv_R V' K' N' Z' D' P' mk' o' l' kS' d' pl') (md_ea Z') (md_dp Z' W' P') (fr_o pO fP p) (pX (fP p).toNatClampNeg) (st + 1) (fI p) 1 (fA p) (fO p) (fH p) (ya' p) (y1 p) (y2 p) (yW' p) (yK' p) (yL' p) →
      Q ((nI mk'), (nI pd'), yhe, yvm, yin, yfi, yde, yap, (nI pa'.length), 0, w, yco, yti, yna, yac, yen, yic, o', l', kS', d', pl', ys, yk, yn, yp, yf, yo, yi, yw, ya', y1, y2, yK', yW', yL', yq, nm, nv, no, yA, lf, rt, iK, iN)) → wpY_goOn Q (yma, ypo, yhe, yvm, yin, yfi, yde, yap, yas, yto, yan, yco, yti, yna, yac, yen, yic, o, l, kS, d, pl, ys, yk, yn, yp, yf, yo, yi, yw, ya, y1, y2, yK, yW, yL, yq, nm, nv, no, yA, lf, rt, iK, iN) (nI p)) :
    rm_I T nf bo np K0 N0 Z0 D0 I0 W0 P0 (st + 1) (xst, xow, xin, xpa, xfi, xfr, (nI p), 1, xan', xkn, xen, xco, xrm, xac, K', N', Z', D', Im', W', P', vS, pO, pX, pI, fS, fP, fI, fU, fR, fO, fA, fH, (upd fG p 1), fN, aS, qL, qR, qP) := by
  subst es
  obtain ⟨hg, hn, hst, hlen, _⟩ := mx_f hX
  obtain ⟨⟨x1, x2, x3, x4, x5, x6, x7, x8, x9, x10⟩, hs, hh, hb, hf, hr, hG, hpot⟩ := hX
  have hpc := fr_pa_lt _ _ hf.2.2.1 p List.mem_cons_self
  have hpn : p < n := by omega
  rw [List.length_cons] at hlen hpot
  have hAp : fA p = nI g := hf.2.2.1.2.2.1
  have hA1 : fA p ≠ -1 := by rw [hAp]; exact fr_n1 (by omega)
  have hG0 : fG p = 0 := hf.2.2.1.2.2.2.1.1 ho
  have hfx : fr_X pO pX np n fP fU fR fO fA (upd fG p 1) (fun f => al f ∧ f ≠ g) (p :: pa') True := by
    refine fr_X_rest (fr_X_G (fr_X_kill hf) 1) ⟨fun w => ?_, fun a b _ => absurd ho (fun z => z.elim a b)⟩
    have := w.2.2
    rw [pk_us] at this
    exact absurd this (by decide)
  have hb1 : md_bx V rm n pO fP fA fH (upd fG p 1) K N Z D P := by
    obtain ⟨q1, q2⟩ := hb
    have ne : ∀ f, upd fG p 1 f = 0 → f ≠ p ∧ fG f = 0 := fun f hz => by
      have e : f ≠ p := fun e => by
        rw [e, pk_us] at hz
        exact absurd hz (by decide)
      rw [pk_un e] at hz
      exact ⟨e, hz⟩
    exact ⟨fun f hf o16 hA hG => q1 f hf o16 hA (ne f hG).2, fun f f' hf hf' hne o1 a1 g1 o2 a2 g2 => q2 f f' hf hf' hne o1 a1 (ne f g1).2 o2 a2 (ne f' g2).2⟩
  have hbx := gr_bx (rm' := rm) hgr hb1 (Nat.le_refl _) (fun f hf' o16 hA' hG' => by
    have e : f ≠ p := fun e => by
      rw [e, pk_us] at hG'
      exact absurd hG' (by decide)
    rw [pk_un e] at hG'
    exact hbs f hf' e o16 hA' hG')
  refine ⟨V', _, p, pa', n, c, rm, a, ⟨⟨x1, rfl, x3, x4, x5, x6, x7, x8, x9, x10⟩, Or.inr (Or.inl rfl), gr_hx hgr hh (Nat.le_refl _) hhs, hbx, fr_X_m hfx (fun _ => trivial), ?_, fun f hf' => ?_, ?_⟩, ⟨fun _ => hxv, fun f hf' => ?_⟩, fun mk0 pd0 v0 hF => ?_⟩
  · have := md_w2_u (fA := fA) (fG := fG) (y := 1) hpn (fun w => absurd w (by decide))
    omega
  · by_cases e : f = p
    · subst e
      exact ⟨1, pk_us, by omega⟩
    · obtain ⟨gv', e1, e2⟩ := hG f hf'
      exact ⟨gv', (pk_un e).trans e1, by omega⟩
  · have q := ct_u (w := md_w1 fO fA fG) (w' := md_w1 fO fA (upd fG p 1)) hpn (fun f _ hne => by unfold md_w1; rw [pk_un hne])
    have q2 : md_w1 fO fA fG p = md_w1 fO fA (upd fG p 1) p + 1 := by
      unfold md_w1
      rw [pk_us, if_pos hG0, if_neg (show ¬ (1 : Int32) = 0 by decide)]
      omega
    rw [md_ph_2] at hpot
    rw [md_ph_1]
    omega
  · obtain ⟨q1, q2, q3⟩ := hv.2 f hf'
    have up : ∀ y : Int32, (∃ s, y = nI s ∧ V s) → ∃ s, y = nI s ∧ V' s := fun y hy => by
      obtain ⟨s, s1, s2⟩ := hy
      exact ⟨s, s1, hgr.2.2.1 s s2⟩
    exact ⟨up _ q1, fun z => up _ (q2 z), fun x hx => up _ (q3 x hx)⟩
  · have hm := hM mk0 pd0 v0 hF
    obtain ⟨yma0, ypo0, yhe0, yvm0, yin0, yfi0, yde0, yap0, yas0, yto0, yan0, yco0, yti0, yna0, yac0, yen0, yic0, o0, l0, kS0, d0, pl0, ys0, yk0, yn0, yp0, yf0, yo0, yi0, yw0, ya0, y10, y20, yK0, yW0, yL0, yq0, nm0, nv0, no0, yA0, lf0, rt0, iK0, iN0⟩ := v0
    refine ⟨fun w => absurd w (by decide), fun _ post hp => ?_⟩
    obtain ⟨m, hp⟩ := hp
    refine hm.2 (by decide) post ⟨m + 1, fun mk pd nd yma ypo yap yas yto yan yco yti yna yac yen o l kS d pl yo yi yw ya y1 y2 yK yW yL yq nm nv no yA lf rt hY => ?_⟩
    have hY0 := hY
    obtain ⟨⟨b1, b2, b3, b4, b5, b6, b7, b8, b9, b10, b11⟩, hfl, hen, hhy, hby, hfr, han, hq0, hq1, hz1, hz2, hz3⟩ := hY
    obtain ⟨ea, eq⟩ := hq1 (by decide)
    rw [List.length_cons] at ea
    refine ct_T b9 b5 ea (by omega) eq.1 (hYw mk0 pd0 mk pd nd yhe0 yvm0 yin0 yfi0 yde0 yic0 ys0 yk0 yn0 yp0 yf0 iK0 iN0 o0 l0 kS0 d0 pl0 yma ypo yap yas yto yan yco yti yna yac yen o l kS d pl yo yi yw ya y1 y2 yK yW yL yq nm nv no yA lf rt hY0 _ (fun mk' pd' o' l' kS' d' pl' ya' yW' yK' yL' w u1 u2 u3 u4 u5 u6 u7 => ?_))
    have hRR := gr_R hh.1 hhy.1 hgr u1
    have hw3 : mk' + vv_sm (md_w3 pO fP fA (upd fG p 1)) n ≤ 40 + rm := by
      have q := ct_u (w := md_w3 pO fP fA fG) (w' := md_w3 pO fP fA (upd fG p 1)) hpn (fun f _ hne => by unfold md_w3; rw [pk_un hne])
      have q2 : md_w3 pO fP fA (upd fG p 1) p = 0 := by
        unfold md_w3
        rw [pk_us, if_neg (fun z => absurd z.2.2 (by decide))]
      have q3 := b11.2
      rcases u2 with z | ⟨z, z2⟩
      · omega
      · have q4 : md_w3 pO fP fA fG p = 1 := by
          unfold md_w3
          rw [if_pos ⟨z, hA1, hG0⟩]
        omega
    refine ct_told ea (by omega) rfl (hp mk' pd' nd (nI mk') (nI pd') yap (nI pa'.length) 0 w yco yti yna yac yen o' l' kS' d' pl' yo yi yw ya' y1 y2 yK' yW' yL' yq nm nv no yA lf rt ⟨⟨rfl, rfl, b3, b4, b5, b6, b7, b8, b9, b10, b11.1, hw3⟩, hfl, hen, gr_hy u1 hhy (by omega) u3, u6, fun f hf' => ?_, fun i hi => hRR _ _ (han i hi), fun w => absurd w (by decide), fun _ => ⟨rfl, eq.2⟩, fun _ => ⟨rfl, u4⟩, fun w => absurd w (by decide), fun w => absurd w (by decide)⟩)
    obtain ⟨t1, t2, t3, t4, t5⟩ := hfr f hf'
    refine ⟨t1, hRR _ _ t2, t3, fun x hx => (t4 x hx).elim (fun z => Or.inl (hRR _ _ z)) Or.inr, ?_⟩
    by_cases e : f = p
    · subst e
      rw [pk_us]
      exact u7
    · rw [pk_un e, (u5 f e).1, (u5 f e).2.1, (u5 f e).2.2.1, (u5 f e).2.2.2]
      exact gr_S hh.1 hhy.1 hgr u1 (by omega) t2 t5
end
section
/-! ===== the heaps as they are ===== -/
theorem gr_id {V : Nat → Prop} {bo rm : Nat} {K N Z D Im W P K0 N0 Z0 D0 I0 W0 P0 : Nat → Int32} (hh : md_hx V bo rm K N Z D Im W P K0 N0 Z0 D0 I0 W0 P0) : gr_X V V (53 + rm) K N Z D Im W P K N Z D Im W P :=
  ⟨fun w => by have := (hh.2.1 _ w).2; omega, by omega, fun _ w => w, fun _ w => Or.inl w, hh.1, fun _ _ => ⟨rfl, rfl, rfl, rfl, rfl, rfl, fun _ _ => rfl⟩⟩
theorem gr_Yid {mk pd : Nat} {o l kS d : Nat → Int32} {pl : Nat → Int64} (h : vv_cy mk pd o l pl) : gr_Y mk pd mk pd o l kS d o l kS d pl pl :=
  ⟨Nat.le_refl _, Nat.le_refl _, h, fun _ _ => ⟨rfl, rfl, rfl, rfl⟩, fun _ _ => rfl⟩
theorem upd_id {f : Nat → Int32} {i : Nat} : upd f i (f i) = f := by
  funext j
  by_cases e : j = i
  · subst e
    exact pk_us
  · exact pk_un e
end
section
/-! ===== a turn that changes nothing but who is asked ===== -/
theorem rm_turn0 {p : Nat} {pa' : List Nat} {T : List Nat → Option vv_L} {nf bo np : Nat} {K0 N0 Z0 D0 I0 W0 P0 : Nat → Int32} {xst xow xin xpa xfi xfr xno xsi xan xkn xen xco xrm xac : Int32} {K N Z D Im W P vS pO pX pI fS fP fI fU fR fO fA fH fG fN aS qL qR qP : Nat → Int32} {st : Nat} {V al : Nat → Prop} {g : Nat} {n c rm a : Nat}
    (hX : md_X V al g (p :: pa') bo np n c rm a st xfr xno xsi xen xco xrm xac K N Z D Im W P K0 N0 Z0 D0 I0 W0 P0 pO pX fP fU fR fO fA fH fG) (hv : mv_X V n xsi xan pO fP fI fH fN)
    (hM : ∀ (mk0 pd0 : Nat) (v0 : SY), kn_F T np nf pO pX pI fS mk0 pd0 v0 → rm_M V (p :: pa') g np n c rm a st xsi xan K N Z D W P pO pX pI fP fI fO fA fH fG fN aS mk0 pd0 v0) (es : xsi = 1) {k : Nat} {xan' : Int32} (hk : 1 ≤ k) (hk2 : k ≤ 2)
    (hYw : ∀ (mk0 pd0 mk pd nd : Nat) (yhe yvm : Int32) (yin : Int64) (yfi yde yic : Int32) (ys : Nat → Int64) (yk yn yp yf iK iN : Nat → Int32) (o0 l0 kS0 d0 : Nat → Int32) (pl0 : Nat → Int64) (yma ypo yap yas yto : Int32) (yan : Int64) (yco yti yna yac yen : Int32) (o l kS d : Nat → Int32) (pl : Nat → Int64) (yo : Nat → Int32) (yi : Nat → Int64) (yw ya y1 y2 : Nat → Int32) (yK : Nat → Int64) (yW : Nat → Int32) (yL : Nat → Int64) (yq nm : Nat → Int32) (nv : Nat → Int64) (no : Nat → Int32) (yA lf rt : Nat → Int64), md_Y V (p :: pa') g np n c rm a st mk pd nd mk0 pd0 xsi xan K N Z D W P pO pX pI fP fI fO fA fH fG fN aS yma ypo yap yas yto yan yco yti yna yac yen o l kS d pl yk yn yp yo yi yw ya y1 y2 yK yW yL yq nm nv no yA o0 l0 kS0 d0 pl0 → ∀ Q : SY → Prop, (∀ (yto' : Int32) (w : Int64), Q (yma, ypo, yhe, yvm, yin, yfi, yde, yap, (nI (pa'.length + 2)), yto', w, yco, yti, yna, yac, yen, yic, o, l, kS, d, pl, ys, yk, yn, yp, yf, yo, yi, yw, ya, y1, y2, yK, yW, yL, (upd yq (pa'.length + 1) (nI g)), nm, nv, no, yA, lf, rt, iK, iN)) → wpY_goOn Q (yma, ypo, yhe, yvm, yin, yfi, yde, yap, yas, yto, yan, yco, yti, yna, yac, yen, yic, o, l, kS, d, pl, ys, yk, yn, yp, yf, yo, yi, yw, ya, y1, y2, yK, yW, yL, yq, nm, nv, no, yA, lf, rt, iK, iN) (nI p)) :
    rm_I T nf bo np K0 N0 Z0 D0 I0 W0 P0 (st + k) (xst, xow, xin, xpa, xfi, xfr, (nI g), 0, xan', xkn, xen, xco, xrm, xac, K, N, Z, D, Im, W, P, vS, pO, pX, pI, fS, fP, fI, fU, fR, fO, fA, fH, fG, fN, aS, qL, qR, qP) := by
  have hX0 := hX
  obtain ⟨⟨x1, x2, x3, x4, x5, x6, x7, x8, x9, x10⟩, hs, hh, hb, hf, hr, hG, hpot⟩ := hX
  have hpn : p < n := by
    have := fr_pa_lt _ _ hf.2.2.1 p List.mem_cons_self
    have := hf.2.2.2.2.1 g (hf.2.2.2.1 g List.mem_cons_self)
    omega
  have key : rm_I T nf bo np K0 N0 Z0 D0 I0 W0 P0 (st + k) (xst, xow, xin, xpa, xfi, xfr, (nI g), 0, xan', xkn, xen, xco, xrm, xac, K, N, Z, D, Im, W, P, vS, pO, pX, pI, fS, fP, fI, fU, fR, fO, fA, (upd fH p (fH p)), fG, fN, aS, qL, qR, qP) := rm_turn (xan' := xan') (h' := fH p) hX0 hv hM es hk hk2 (gr_id hh) (by rw [upd_id]; exact hb) (fun z => (hv.2 p hpn).2.1 z) (fun mk0 pd0 mk pd nd yhe yvm yin yfi yde yic ys yk yn yp yf iK iN o0 l0 kS0 d0 pl0 yma ypo yap yas yto yan yco yti yna yac yen o l kS d pl yo yi yw ya y1 y2 yK yW yL yq nm nv no yA lf rt hY Q hQ => hYw mk0 pd0 mk pd nd yhe yvm yin yfi yde yic ys yk yn yp yf iK iN o0 l0 kS0 d0 pl0 yma ypo yap yas yto yan yco yti yna yac yen o l kS d pl yo yi yw ya y1 y2 yK yW yL yq nm nv no yA lf rt hY Q (fun yto' w => by
    obtain ⟨⟨b1, b2, b3, b4, b5, b6, b7, b8, b9, b10, b11⟩, hfl, hen, hhy, hby, hfr, han, hq0, hq1, hz1, hz2, hz3⟩ := hY
    obtain ⟨t1, t2, t3, t4, t5⟩ := hfr p hpn
    exact hQ yto' w pl yW yK yL (fun _ _ z => z) hhy.1 (fun _ _ => rfl) (by rw [upd_id]; exact hby) (fun _ _ => ⟨rfl, rfl, rfl⟩) (fr_S_up (fun _ _ w => w) (fun _ w => w) (fun _ _ w => w) (by omega) t5)))
  rw [upd_id] at key
  exact key
end
section
/-! ===== a turn that changes what the frame holds, and no heap ===== -/
theorem rm_turnH {p : Nat} {pa' : List Nat} {T : List Nat → Option vv_L} {nf bo np : Nat} {K0 N0 Z0 D0 I0 W0 P0 : Nat → Int32} {xst xow xin xpa xfi xfr xno xsi xan xkn xen xco xrm xac : Int32} {K N Z D Im W P vS pO pX pI fS fP fI fU fR fO fA fH fG fN aS qL qR qP : Nat → Int32} {st : Nat} {V al : Nat → Prop} {g : Nat} {n c rm a : Nat}
    (hX : md_X V al g (p :: pa') bo np n c rm a st xfr xno xsi xen xco xrm xac K N Z D Im W P K0 N0 Z0 D0 I0 W0 P0 pO pX fP fU fR fO fA fH fG) (hv : mv_X V n xsi xan pO fP fI fH fN)
    (hM : ∀ (mk0 pd0 : Nat) (v0 : SY), kn_F T np nf pO pX pI fS mk0 pd0 v0 → rm_M V (p :: pa') g np n c rm a st xsi xan K N Z D W P pO pX pI fP fI fO fA fH fG fN aS mk0 pd0 v0) (es : xsi = 1) (n16 : fr_o pO fP p ≠ 16) {k : Nat} {xan' h' : Int32} (hk : 1 ≤ k) (hk2 : k ≤ 2) (hxh : ∃ s, h' = nI s ∧ V s)
    (hYw : ∀ (mk0 pd0 mk pd nd : Nat) (yhe yvm : Int32) (yin : Int64) (yfi yde yic : Int32) (ys : Nat → Int64) (yk yn yp yf iK iN : Nat → Int32) (o0 l0 kS0 d0 : Nat → Int32) (pl0 : Nat → Int64) (yma ypo yap yas yto : Int32) (yan : Int64) (yco yti yna yac yen : Int32) (o l kS d : Nat → Int32) (pl : Nat → Int64) (yo : Nat → Int32) (yi : Nat → Int64) (yw ya y1 y2 : Nat → Int32) (yK : Nat → Int64) (yW : Nat → Int32) (yL : Nat → Int64) (yq nm : Nat → Int32) (nv : Nat → Int64) (no : Nat → Int32) (yA lf rt : Nat → Int64), md_Y V (p :: pa') g np n c rm a st mk pd nd mk0 pd0 xsi xan K N Z D W P pO pX pI fP fI fO fA fH fG fN aS yma ypo yap yas yto yan yco yti yna yac yen o l kS d pl yk yn yp yo yi yw ya y1 y2 yK yW yL yq nm nv no yA o0 l0 kS0 d0 pl0 → ∀ Q : SY → Prop, (∀ (yto' : Int32) (w : Int64) (yW' : Nat → Int32) (yK' yL' : Nat → Int64), (∀ f, f ≠ p → yW' f = yW f ∧ yK' f = yK f ∧ yL' f = yL f) →
      fr_S (vv_R V K N Z D P mk o l kS d pl) (md_ea Z) (md_dp Z W P) (fr_o pO fP p) (pX (fP p).toNatClampNeg) (st + k) (fI p) (fG p) (fA p) (fO p) h' (ya p) (y1 p) (y2 p) (yW' p) (yK' p) (yL' p) →
      Q (yma, ypo, yhe, yvm, yin, yfi, yde, yap, (nI (pa'.length + 2)), yto', w, yco, yti, yna, yac, yen, yic, o, l, kS, d, pl, ys, yk, yn, yp, yf, yo, yi, yw, ya, y1, y2, yK', yW', yL', (upd yq (pa'.length + 1) (nI g)), nm, nv, no, yA, lf, rt, iK, iN)) → wpY_goOn Q (yma, ypo, yhe, yvm, yin, yfi, yde, yap, yas, yto, yan, yco, yti, yna, yac, yen, yic, o, l, kS, d, pl, ys, yk, yn, yp, yf, yo, yi, yw, ya, y1, y2, yK, yW, yL, yq, nm, nv, no, yA, lf, rt, iK, iN) (nI p)) :
    rm_I T nf bo np K0 N0 Z0 D0 I0 W0 P0 (st + k) (xst, xow, xin, xpa, xfi, xfr, (nI g), 0, xan', xkn, xen, xco, xrm, xac, K, N, Z, D, Im, W, P, vS, pO, pX, pI, fS, fP, fI, fU, fR, fO, fA, (upd fH p h'), fG, fN, aS, qL, qR, qP) := by
  have hX0 := hX
  obtain ⟨⟨x1, x2, x3, x4, x5, x6, x7, x8, x9, x10⟩, hs, hh, hb, hf, hr, hG, hpot⟩ := hX
  have ne : ∀ f, fr_o pO fP f = 16 → f ≠ p := fun f hf e => n16 (by rw [← e]; exact hf)
  refine rm_turn (xan' := xan') (h' := h') hX0 hv hM es hk hk2 (gr_id hh) ?_ (fun _ => hxh) (fun mk0 pd0 mk pd nd yhe yvm yin yfi yde yic ys yk yn yp yf iK iN o0 l0 kS0 d0 pl0 yma ypo yap yas yto yan yco yti yna yac yen o l kS d pl yo yi yw ya y1 y2 yK yW yL yq nm nv no yA lf rt hY Q hQ => hYw mk0 pd0 mk pd nd yhe yvm yin yfi yde yic ys yk yn yp yf iK iN o0 l0 kS0 d0 pl0 yma ypo yap yas yto yan yco yti yna yac yen o l kS d pl yo yi yw ya y1 y2 yK yW yL yq nm nv no yA lf rt hY Q (fun yto' w yW' yK' yL' u5 u6 => ?_))
  · obtain ⟨q1, q2⟩ := hb
    refine ⟨fun f hf o16 hA hG => ?_, fun f f' hf hf' hne o1 a1 g1 o2 a2 g2 => ?_⟩
    · rw [pk_un (ne f o16)]
      exact q1 f hf o16 hA hG
    · rw [pk_un (ne f o1), pk_un (ne f' o2)]
      exact q2 f f' hf hf' hne o1 a1 g1 o2 a2 g2
  · obtain ⟨⟨b1, b2, b3, b4, b5, b6, b7, b8, b9, b10, b11⟩, hfl, hen, hhy, hby, hfr, han, hq0, hq1, hz1, hz2, hz3⟩ := hY
    refine hQ yto' w pl yW' yK' yL' (fun _ _ z => z) hhy.1 (fun _ _ => rfl) ?_ u5 u6
    obtain ⟨q1, q2⟩ := hby
    refine ⟨fun f hf' o16 hA' => ?_, q2⟩
    rw [pk_un (ne f o16), (u5 f (ne f o16)).1]
    exact q1 f hf' o16 hA'
end
