/-! ===== asked, and through ===== -/
/-- the kinds as Y numbers them -/
theorem kk_lt {oq : Nat} (h : oq ≤ 35) : fl_kk oq < 60 ∧ (oq < 16 → fl_kk oq = oq) ∧ (16 ≤ oq → 20 ≤ fl_kk oq) := by
  unfold fl_kk
  refine ⟨by split <;> (try split) <;> (try split) <;> omega, fun h => by rw [if_pos h], fun h => by rw [if_neg (by omega)]; split <;> (try split) <;> omega⟩
