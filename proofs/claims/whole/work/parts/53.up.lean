/-! ===== an end or an error goes outwards ===== -/
theorem md_qu {yq : Nat → Int32} {l : List Nat} {k : Nat} {x : Int32} : md_q yq l → l.length ≤ k → md_q (upd yq k x) l := by
  induction l with
  | nil => intro _ _; trivial
  | cons g l ih =>
    intro h hk
    obtain ⟨h1, h2⟩ := h
    rw [List.length_cons] at hk
    exact ⟨(pk_un (by omega)).trans h1, ih h2 (by omega)⟩
