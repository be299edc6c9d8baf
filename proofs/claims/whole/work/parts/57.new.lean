/-! ===== a filter within is applied ===== -/
theorem rl_R00 {V : Nat → Prop} {K N Z D Im W P : Nat → Int32} {mk : Nat} {o l kS d : Nat → Int32} {pl : Nat → Int64} (hx : vv_ox V K N Z D Im W P) (hb : rl_b V K N) : vv_R V K N Z D P mk o l kS d pl 0 0 := by
  rw [yy_0]
  exact rl_R0 hx hb (κ := 0) (by omega)
/-- the state of a frame that was just made -/
theorem fr_S0 {R : Int32 → Int64 → Prop} {E : Int32 → Nat → Prop} {Dp : Int32 → Nat → Nat → Prop} {oq st : Nat} {x fi : Int32} {yL : Int64} (hR : R 0 0) (hE : E fi 0) (h18 : oq = 18 → ∃ m, m < 10 ∧ x = nI m) : fr_S R E Dp oq x st fi 0 (-1) (-1) 0 0 (-1) (-1) 0 0 yL := by
  refine ⟨fun _ => ⟨rfl, rfl, Or.inl rfl, fun _ _ _ => rfl⟩, fun _ => ⟨0, rfl, rfl, hE⟩, fun _ => Or.inl ⟨rfl, rfl⟩, fun _ _ => ⟨rfl, rfl⟩, fun _ => Or.inl ⟨rfl, rfl, rfl, rfl⟩, fun e => ?_, fun _ _ => ⟨rfl, Or.inl ⟨rfl, rfl⟩⟩, fun _ _ => hR, fun _ => Or.inl ⟨rfl, rfl⟩, fun _ => ⟨rfl, Or.inl ⟨rfl, rfl, rfl, rfl, rfl, hR⟩⟩⟩
  obtain ⟨m, m1, m2⟩ := h18 e
  exact ⟨0, m, rfl, rfl, m2, by omega, m1⟩
theorem md_w1_n {fO fA fG fO' : Nat → Int32} {n p : Nat} (hp : p < n) (eO : ∀ f, f ≠ p → f ≠ n → fO' f = fO f) (eOn : fO' n = -1) : vv_sm (md_w1 fO' (upd (upd fA n (-1)) p (nI n)) (upd fG n 0)) (n + 1) ≤ vv_sm (md_w1 fO fA fG) n + 2 := by
  rw [ct_n]
  have h := ct_u (w := md_w1 fO fA fG) (w' := md_w1 fO' (upd (upd fA n (-1)) p (nI n)) (upd fG n 0)) hp (fun f hf hne => by
    unfold md_w1
    rw [pk_un hne, pk_un (show f ≠ n by omega), pk_un (show f ≠ n by omega), eO f hne (by omega)])
  have h1 : md_w1 fO' (upd (upd fA n (-1)) p (nI n)) (upd fG n 0) n = 1 := by
    unfold md_w1
    rw [pk_us, pk_un (show n ≠ p by omega), pk_us, eOn, if_pos rfl, if_pos rfl]
  have h2 : md_w1 fO' (upd (upd fA n (-1)) p (nI n)) (upd fG n 0) p ≤ md_w1 fO fA fG p + 1 := by
    unfold md_w1
    rw [pk_un (show p ≠ n by omega)]
    split <;> split <;> split <;> omega
  omega
theorem md_w2_n {fA fG : Nat → Int32} {n p : Nat} (hp : p < n) (hn : n < 600) : vv_sm (md_w2 (upd (upd fA n (-1)) p (nI n)) (upd fG n 0)) (n + 1) ≤ vv_sm (md_w2 fA fG) n + 1 := by
  rw [ct_n]
  have h := ct_u (w := md_w2 fA fG) (w' := md_w2 (upd (upd fA n (-1)) p (nI n)) (upd fG n 0)) hp (fun f hf hne => by
    unfold md_w2
    rw [pk_un hne, pk_un (show f ≠ n by omega), pk_un (show f ≠ n by omega)])
  have h1 : md_w2 (upd (upd fA n (-1)) p (nI n)) (upd fG n 0) n ≤ 1 := by
    unfold md_w2
    split <;> omega
  have h2 : md_w2 (upd (upd fA n (-1)) p (nI n)) (upd fG n 0) p = 0 := by
    unfold md_w2
    rw [pk_us, if_neg (fun w => fr_n1 hn w.2)]
  omega
