/-! ===== the heaps as they are ===== -/
theorem gr_id {V : Nat → Prop} {bo rm : Nat} {K N Z D Im W P K0 N0 Z0 D0 I0 W0 P0 : Nat → Int32} (hh : md_hx V bo rm K N Z D Im W P K0 N0 Z0 D0 I0 W0 P0) : gr_X V V (53 + rm) K N Z D Im W P K N Z D Im W P :=
  ⟨fun w => by have := (hh.2.1 _ w).2; omega, by omega, fun _ w => w, fun _ w => Or.inl w, hh.1, fun _ _ => ⟨rfl, rfl, rfl, rfl, rfl, rfl, fun _ _ => rfl⟩⟩
theorem gr_Yid {mk pd : Nat} {o l kS d : Nat → Int32} {pl : Nat → Int64} (h : vv_cy mk pd o l pl) : gr_Y mk pd mk pd o l kS d o l kS d pl pl :=
  ⟨Nat.le_refl _, Nat.le_refl _, h, fun _ _ => ⟨rfl, rfl, rfl, rfl⟩, fun _ _ => rfl⟩
theorem upd_id {f : Nat → Int32} {i : Nat} : upd f i (f i) = f := by
  funext j
  by_cases e : j = i
  · subst e
    exact pk_us
  · exact pk_un e
