/-! ===== frames: links, the path, who rests; X alone ===== -/
def fr_o (pO fP : Nat → Int32) (f : Nat) : Nat := (pO (fP f).toNatClampNeg).toNatClampNeg
def fr_busy (pO fP fA fG : Nat → Int32) (f : Nat) : Prop := (fr_o pO fP f = 16 ∨ fr_o pO fP f = 35) ∧ fA f ≠ -1 ∧ fG f = 0
/-- a child of frame f: a later frame, applied within f, of a part within f's -/
def fr_kid (fP fU : Nat → Int32) (n f : Nat) (x : Int32) : Prop := ∃ c, x = nI c ∧ f < c ∧ c < n ∧ fU c = nI f ∧ (fP c).toNatClampNeg < (fP f).toNatClampNeg
/-- a later filter within: of which ops, and in a fold whether the first has been asked -/
def fr_ro (o : Nat) (r ou : Int32) : Prop := 21 ≤ o ∧ (o ≠ 35 → ou ≠ -1) ∧ (o = 35 → (r = 1 ↔ ou = -1))
def fr_lk (pO : Nat → Int32) (np n : Nat) (fP fU fR fO fA : Nat → Int32) (f : Nat) : Prop :=
  (∃ q, fP f = nI q ∧ q < np) ∧
  (fO f = -1 ∨ (fr_kid fP fU n f (fO f) ∧ fR (fO f).toNatClampNeg = 0 ∧ 16 ≤ fr_o pO fP f ∧ fA f ≠ -1)) ∧
  (fA f = -1 ∨ (fr_kid fP fU n f (fA f) ∧ ((fR (fA f).toNatClampNeg = 0 ∧ fO f = fA f) ∨ ((fR (fA f).toNatClampNeg = 1 ∨ fR (fA f).toNatClampNeg = 2) ∧ fO f ≠ fA f ∧ fr_ro (fr_o pO fP f) (fR (fA f).toNatClampNeg) (fO f)))))
/-- frame p, on the path with another behind it, isn't through -/
def fr_run (pO pX fP fG : Nat → Int32) (p : Nat) : Prop :=
  ((fr_o pO fP p = 16 ∨ fr_o pO fP p = 35) → fG p = 0) ∧ (fr_o pO fP p = 18 → ∃ g m, fG p = nI g ∧ pX (fP p).toNatClampNeg = nI m ∧ g < m ∧ m < 10)
def fr_pa (pO pX fP fU fA fG : Nat → Int32) : List Nat → Prop
  | [] => False
  | [r] => r = 0 ∧ fU 0 = -1
  | c :: p :: l => p < c ∧ fU c = nI p ∧ fA p = nI c ∧ fr_run pO pX fP fG p ∧ fr_pa pO pX fP fU fA fG (p :: l)
def fr_rs (pO fP fA fG : Nat → Int32) (al : Nat → Prop) (l : List Nat) (f : Nat) : Prop :=
  ¬ fr_busy pO fP fA fG f ∧ (fr_o pO fP f ≠ 16 → fr_o pO fP f ≠ 35 → fA f ≠ -1 → al (fA f).toNatClampNeg ∧ (fA f).toNatClampNeg ∉ l)
def fr_X (pO pX : Nat → Int32) (np n : Nat) (fP fU fR fO fA fG : Nat → Int32) (al : Nat → Prop) (l : List Nat) (m : Prop) : Prop :=
  n ≤ 600 ∧ (∀ f, f < n → fr_lk pO np n fP fU fR fO fA f) ∧ fr_pa pO pX fP fU fA fG l ∧ (∀ f, f ∈ l → al f) ∧ (∀ f, al f → f < n) ∧
  (∀ f, al f → (f ∉ l ∨ (m ∧ l.head? = some f)) → fr_rs pO fP fA fG al l f) ∧
  (∀ f, al f → fr_o pO fP f ≠ 22 → fr_o pO fP f ≠ 32 → fA f ≠ fO f → fO f ≠ -1 → al (fO f).toNatClampNeg ∧ (fO f).toNatClampNeg ∉ l)
section
variable {pO pX fP fU fR fO fA fG fP' fU' fR' fO' fA' fG' : Nat → Int32} {np n : Nat} {al al' : Nat → Prop} {l : List Nat} {m m' : Prop} {c p : Nat}
theorem fr_n1 {k : Nat} (h : k < 600) : nI k ≠ -1 := by
  intro e
  have h1 := congrArg Int32.toInt e
  rw [nI_toInt (by omega)] at h1
  have h2 : (-1 : Int32).toInt = -1 := by decide
  omega
/-- the path falls -/
theorem fr_pa_lt : ∀ (l : List Nat) (c : Nat), fr_pa pO pX fP fU fA fG (c :: l) → ∀ f, f ∈ l → f < c
  | [], _, _ => fun f hf => absurd hf (by simp)
  | p :: l, c, h => by
    obtain ⟨h1, _, _, _, h5⟩ := h
    intro f hf
    rcases List.mem_cons.mp hf with e | e
    · omega
    · have := fr_pa_lt l p h5 f e
      omega
/-- the path is seen by what lies below its head -/
theorem fr_pa_st : ∀ (l : List Nat) (c : Nat), fr_pa pO pX fP fU fA fG (c :: l) → fU' c = fU c →
    (∀ f, f < c → fP' f = fP f ∧ fU' f = fU f ∧ fA' f = fA f ∧ fG' f = fG f) → fr_pa pO pX fP' fU' fA' fG' (c :: l)
  | [], c, h, hc, e => by
    obtain ⟨h1, h2⟩ := h
    subst h1
    exact ⟨rfl, hc.trans h2⟩
  | p :: l, c, h, hc, e => by
    obtain ⟨h1, h2, h3, h4, h5⟩ := h
    obtain ⟨e1, e2, e3, e4⟩ := e p h1
    refine ⟨h1, hc.trans h2, e3.trans h3, ?_, fr_pa_st l p h5 e2 (fun f hf => e f (by omega))⟩
    unfold fr_run fr_o at h4 ⊢
    rw [e1, e4]
    exact h4
theorem fr_X_w (h : fr_X pO pX np n fP fU fR fO fA fG al l m) : fr_X pO pX np n fP fU fR fO fA fG al l False := by
  obtain ⟨h0, h1, h2, h3, h4, h5, h6⟩ := h
  exact ⟨h0, h1, h2, h3, h4, fun f hf hz => h5 f hf (hz.elim Or.inl (fun z => z.1.elim)), h6⟩
theorem fr_X_rest (h : fr_X pO pX np n fP fU fR fO fA fG al (p :: l) False) (hr : fr_rs pO fP fA fG al (p :: l) p) : fr_X pO pX np n fP fU fR fO fA fG al (p :: l) True := by
  obtain ⟨h0, h1, h2, h3, h4, h5, h6⟩ := h
  refine ⟨h0, h1, h2, h3, h4, fun f hf hz => ?_, h6⟩
  rcases hz with z | ⟨_, z⟩
  · exact h5 f hf (Or.inl z)
  · have : p = f := by simpa using z
    subst this
    exact hr
/-- the head is left, resting -/
theorem fr_X_pop (h : fr_X pO pX np n fP fU fR fO fA fG al (c :: p :: l) True) : fr_X pO pX np n fP fU fR fO fA fG al (p :: l) False := by
  obtain ⟨h0, h1, h2, h3, h4, h5, h6⟩ := h
  have hlt := fr_pa_lt _ _ h2
  have sub : ∀ x, x ∉ c :: p :: l → x ∉ p :: l := fun x hx hm => hx (List.mem_cons_of_mem _ hm)
  refine ⟨h0, h1, h2.2.2.2.2, fun f hf => h3 f (List.mem_cons_of_mem _ hf), h4, fun f hf hz => ?_, fun f hf a b d e => ?_⟩
  · have hz' : f ∉ p :: l := hz.elim id (fun z => z.1.elim)
    have hr : fr_rs pO fP fA fG al (c :: p :: l) f := by
      by_cases e : f = c
      · subst e
        exact h5 f hf (Or.inr ⟨trivial, rfl⟩)
      · exact h5 f hf (Or.inl (by
          intro hm
          rcases List.mem_cons.mp hm with z | z
          · exact e z
          · exact hz' z))
    exact ⟨hr.1, fun a b d => ⟨(hr.2 a b d).1, sub _ (hr.2 a b d).2⟩⟩
  · obtain ⟨x, y⟩ := h6 f hf a b d e
    exact ⟨x, sub _ y⟩
/-- the head is left for good -/
theorem fr_X_kill (h : fr_X pO pX np n fP fU fR fO fA fG al (c :: p :: l) m) : fr_X pO pX np n fP fU fR fO fA fG (fun f => al f ∧ f ≠ c) (p :: l) False := by
  obtain ⟨h0, h1, h2, h3, h4, h5, h6⟩ := h
  have hlt := fr_pa_lt _ _ h2
  have hcn : c < n := h4 c (h3 c List.mem_cons_self)
  obtain ⟨hpc, hUc, hAp, _, hpa⟩ := h2
  have hp := hlt p List.mem_cons_self
  have sub : ∀ x, x ∉ c :: p :: l → x ∉ p :: l := fun x hx hm => hx (List.mem_cons_of_mem _ hm)
  refine ⟨h0, h1, hpa, fun f hf => ⟨h3 f (List.mem_cons_of_mem _ hf), fun e => ?_⟩, fun f hf => h4 f hf.1, fun f hf hz => ?_, fun f hf a b d e => ?_⟩
  · subst e
    have := hlt f hf
    omega
  · have hz' : f ∉ p :: l := hz.elim id (fun z => z.1.elim)
    have hr : fr_rs pO fP fA fG al (c :: p :: l) f := h5 f hf.1 (Or.inl (by
      intro hm
      rcases List.mem_cons.mp hm with z | z
      · exact hf.2 z
      · exact hz' z))
    refine ⟨hr.1, fun a b d => ?_⟩
    obtain ⟨x, y⟩ := hr.2 a b d
    exact ⟨⟨x, fun e => y (by rw [e]; exact List.mem_cons_self)⟩, sub _ y⟩
  · obtain ⟨x, y⟩ := h6 f hf.1 a b d e
    exact ⟨⟨x, fun e => y (by rw [e]; exact List.mem_cons_self)⟩, sub _ y⟩
/-- down to a child that stands already -/
theorem fr_X_push (h : fr_X pO pX np n fP fU fR fO fA fG al (p :: l) False) (hA : fA p = nI c) (hc : al c) (hcl : c ∉ p :: l) (hr : fr_run pO pX fP fG p) (hpc : p < c) (hU : fU c = nI p) : fr_X pO pX np n fP fU fR fO fA fG al (c :: p :: l) True := by
  obtain ⟨h0, h1, h2, h3, h4, h5, h6⟩ := h
  have hcn := h4 c hc
  have hpn := h4 p (h3 p List.mem_cons_self)
  -- whose child is c: p's alone
  have one : ∀ f, f < n → ∀ x, fr_kid fP fU n f x → x.toNatClampNeg = c → f = p := by
    intro f hf x hx hxc
    obtain ⟨k, e1, e2, e3, e4, _⟩ := hx
    rw [e1, nI_clamp (by omega)] at hxc
    subst hxc
    rw [hU] at e4
    exact ((nI_eq (by omega) (by omega)).mp e4).symm
  refine ⟨h0, h1, ⟨hpc, hU, hA, hr, h2⟩, fun f hf => ?_, h4, fun f hf hz => ?_, fun f hf a b d e => ?_⟩
  · rcases List.mem_cons.mp hf with z | z
    · subst z; exact hc
    · exact h3 f z
  · have hfn := h4 f hf
    have hfp : f ∉ p :: l := by
      rcases hz with z | ⟨_, z⟩
      · exact fun hm => z (List.mem_cons_of_mem _ hm)
      · have : c = f := by simpa using z
        rw [← this]
        exact hcl
    have hr' := h5 f hf (Or.inl hfp)
    refine ⟨hr'.1, fun a b d => ?_⟩
    obtain ⟨x, y⟩ := hr'.2 a b d
    refine ⟨x, fun hm => ?_⟩
    rcases List.mem_cons.mp hm with z | z
    · rcases (h1 f hfn).2.2 with w | ⟨w, _⟩
      · exact d w
      · have := one f hfn _ w z
        subst this
        exact hfp List.mem_cons_self
    · exact y z
  · obtain ⟨x, y⟩ := h6 f hf a b d e
    have hfn := h4 f hf
    refine ⟨x, fun hm => ?_⟩
    rcases List.mem_cons.mp hm with z | z
    · rcases (h1 f hfn).2.1 with w | ⟨w, _⟩
      · exact e w
      · have := one f hfn _ w z
        subst this
        apply d
        obtain ⟨k, e1, _, e3, _⟩ := w
        rw [e1, nI_clamp (by omega)] at z
        rw [hA, e1, z]
    · exact y z
/-- what lies in the head alone may change -/
theorem fr_X_G (h : fr_X pO pX np n fP fU fR fO fA fG al (p :: l) False) (x : Int32) : fr_X pO pX np n fP fU fR fO fA (upd fG p x) al (p :: l) False := by
  obtain ⟨h0, h1, h2, h3, h4, h5, h6⟩ := h
  refine ⟨h0, h1, fr_pa_st l p h2 rfl (fun f hf => ⟨rfl, rfl, rfl, pk_un (by omega)⟩), h3, h4, fun f hf hz => ?_, h6⟩
  have hz' : f ∉ p :: l := hz.elim id (fun z => z.1.elim)
  have hfp : f ≠ p := fun e => hz' (by rw [e]; exact List.mem_cons_self)
  have := h5 f hf (Or.inl hz')
  unfold fr_rs fr_busy at this ⊢
  rw [pk_un hfp]
  exact this
/-- back to the outer child -/
theorem fr_X_A (h : fr_X pO pX np n fP fU fR fO fA fG al (p :: l) False) (hO : fO p ≠ -1) : fr_X pO pX np n fP fU fR fO (upd fA p (fO p)) fG al (p :: l) False := by
  obtain ⟨h0, h1, h2, h3, h4, h5, h6⟩ := h
  refine ⟨h0, fun f hf => ?_, fr_pa_st l p h2 rfl (fun f hf => ⟨rfl, rfl, pk_un (by omega), rfl⟩), h3, h4, fun f hf hz => ?_, fun f hf a b d e => ?_⟩
  · obtain ⟨k1, k2, k3⟩ := h1 f hf
    refine ⟨k1, ?_, ?_⟩
    · by_cases e : f = p
      · subst e
        rw [pk_us]
        rcases k2 with z | ⟨z1, z2, z3, _⟩
        · exact Or.inl z
        · exact Or.inr ⟨z1, z2, z3, hO⟩
      · rw [pk_un e]
        exact k2
    by_cases e : f = p
    · subst e
      rw [pk_us]
      rcases k2 with z | ⟨z1, z2⟩
      · exact absurd z hO
      · exact Or.inr ⟨z1, Or.inl ⟨z2.1, rfl⟩⟩
    · rw [pk_un e]
      exact k3
  · have hz' : f ∉ p :: l := hz.elim id (fun z => z.1.elim)
    have hfp : f ≠ p := fun e => hz' (by rw [e]; exact List.mem_cons_self)
    have := h5 f hf (Or.inl hz')
    unfold fr_rs fr_busy at this ⊢
    rw [pk_un hfp]
    exact this
  · by_cases e' : f = p
    · subst e'
      rw [pk_us] at d
      exact absurd rfl d
    · rw [pk_un e'] at d
      exact h6 f hf a b d e
end
section
variable {pO pX fP fU fR fO fA fG : Nat → Int32} {np n : Nat} {al : Nat → Prop} {l : List Nat} {p : Nat}
/-- a new frame within the head -/
theorem fr_X_new (h : fr_X pO pX np n fP fU fR fO fA fG al (p :: l) False) (hn : n < 600) (hr : fr_run pO pX fP fG p) {q : Nat} {ro : Int32} (hq : q < np) (hnp : np ≤ 40) (hqp : q < (fP p).toNatClampNeg)
    (hro : ro = 0 ∨ ro = 1 ∨ ro = 2) {fO' : Nat → Int32} (eO : ∀ f, f ≠ p → f ≠ n → fO' f = fO f) (eOn : fO' n = -1) (eO0 : ro = 0 → fO' p = nI n) (eO1 : ro ≠ 0 → fO' p = fO p)
    (hO : ro ≠ 0 → fr_o pO fP p ≠ 22 → fr_o pO fP p ≠ 32 → fO p ≠ -1 → al (fO p).toNatClampNeg ∧ (fO p).toNatClampNeg ∉ p :: l) (h21 : ro ≠ 0 → fr_ro (fr_o pO fP p) ro (fO p)) (h16 : 16 ≤ fr_o pO fP p) :
    fr_X pO pX np (n + 1) (upd fP n (nI q)) (upd fU n (nI p)) (upd fR n ro) fO' (upd (upd fA n (-1)) p (nI n)) (upd fG n 0) (fun f => al f ∨ f = n) (n :: p :: l) True := by
  obtain ⟨h0, h1, h2, h3, h4, h5, h6⟩ := h
  have hpn := h4 p (h3 p List.mem_cons_self)
  have hne : p ≠ n := by omega
  have eo : ∀ f, f ≠ n → fr_o pO (upd fP n (nI q)) f = fr_o pO fP f := fun f hf => by unfold fr_o; rw [pk_un hf]
  have hmem : ∀ f, f ∈ p :: l → f < n := fun f hf => h4 f (h3 f hf)
  have kid : ∀ f x, f < n → fr_kid fP fU n f x → fr_kid (upd fP n (nI q)) (upd fU n (nI p)) (n + 1) f x := by
    intro f x hf hx
    obtain ⟨k, e1, e2, e3, e4, e5⟩ := hx
    refine ⟨k, e1, e2, by omega, ?_, ?_⟩
    · rw [pk_un (by omega)]; exact e4
    · rw [pk_un (by omega), pk_un (by omega)]; exact e5
  have kidc : ∀ f x, fr_kid fP fU n f x → x.toNatClampNeg < n := by
    intro f x hx
    obtain ⟨k, e1, e2, e3, e4, e5⟩ := hx
    rw [e1, nI_clamp (by omega)]; exact e3
  have kidn : fr_kid (upd fP n (nI q)) (upd fU n (nI p)) (n + 1) p (nI n) := by
    refine ⟨n, rfl, hpn, by omega, pk_us, ?_⟩
    rw [pk_us, pk_un hne, nI_clamp (by omega)]; exact hqp
  refine ⟨by omega, fun f hf => ?_, ⟨hpn, pk_us, pk_us, ?_, fr_pa_st l p h2 (pk_un hne) (fun f hf => ⟨pk_un (by omega), pk_un (by omega), ?_, pk_un (by omega)⟩)⟩, fun f hf => ?_, fun f hf => ?_, fun f hf hz => ?_, fun f hf a b d e => ?_⟩
  · by_cases e : f = n
    · subst e
      refine ⟨⟨q, pk_us, hq⟩, Or.inl eOn, Or.inl ?_⟩
      rw [pk_un (Ne.symm hne), pk_us]
    · have hfn : f < n := by omega
      obtain ⟨⟨k, k1, k2⟩, k3, k4⟩ := h1 f hfn
      refine ⟨⟨k, (pk_un e).trans k1, k2⟩, ?_, ?_⟩
      · by_cases ep : f = p
        · subst ep
          by_cases z : ro = 0
          · rw [eO0 z]
            refine Or.inr ⟨kidn, ?_, by rw [eo f hne]; exact h16, by rw [pk_us]; exact fr_n1 hn⟩
            rw [nI_clamp (by omega), pk_us]; exact z
          · rw [eO1 z]
            rcases k3 with w | ⟨w1, w2⟩
            · exact Or.inl w
            · refine Or.inr ⟨kid _ _ hfn w1, ?_⟩
              have := kidc _ _ w1
              exact ⟨by rw [pk_un (by omega)]; exact w2.1, by rw [eo f hne]; exact w2.2.1, by rw [pk_us]; exact fr_n1 hn⟩
        · rw [eO f ep e]
          rcases k3 with w | ⟨w1, w2⟩
          · exact Or.inl w
          · refine Or.inr ⟨kid _ _ hfn w1, ?_⟩
            have := kidc _ _ w1
            exact ⟨by rw [pk_un (by omega)]; exact w2.1, by rw [eo f e]; exact w2.2.1, by rw [pk_un ep, pk_un e]; exact w2.2.2⟩
      · by_cases ep : f = p
        · subst ep
          rw [pk_us]
          refine Or.inr ⟨kidn, ?_⟩
          rw [nI_clamp (by omega), pk_us]
          by_cases z : ro = 0
          · exact Or.inl ⟨z, eO0 z⟩
          · refine Or.inr ⟨hro.elim (fun w => absurd w z) id, ?_, by rw [eo f hne, eO1 z]; exact h21 z⟩
            rw [eO1 z]
            intro w
            rcases k3 with w' | ⟨w1, _⟩
            · exact fr_n1 hn (w.symm.trans w')
            · have := kidc _ _ w1
              rw [w, nI_clamp (by omega)] at this
              omega
        · rw [pk_un ep, pk_un e, eO f ep e]
          rcases k4 with w | ⟨w1, w2⟩
          · exact Or.inl w
          · refine Or.inr ⟨kid _ _ hfn w1, ?_⟩
            have := kidc _ _ w1
            rw [pk_un (by omega), eo f e]; exact w2
  · unfold fr_run at hr ⊢
    rw [eo p hne, pk_un hne, pk_un hne]
    exact hr
  · rw [pk_un (by omega), pk_un (by omega)]
  · rcases List.mem_cons.mp hf with z | z
    · exact Or.inr z
    · exact Or.inl (h3 f z)
  · rcases hf with z | z
    · have := h4 f z; omega
    · omega
  · by_cases e : f = n
    · subst e
      unfold fr_rs fr_busy
      rw [pk_un (Ne.symm hne), pk_us]
      exact ⟨fun w => w.2.1 rfl, fun _ _ w => absurd rfl w⟩
    · have hal : al f := hf.elim id (fun w => absurd w e)
      have hfl : f ∉ p :: l := by
        rcases hz with z | ⟨_, z⟩
        · exact fun hm => z (List.mem_cons_of_mem _ hm)
        · exact absurd (by simpa using z : n = f) (Ne.symm e)
      have hfp : f ≠ p := fun w => hfl (by rw [w]; exact List.mem_cons_self)
      have hfn := h4 f hal
      have hk := (h1 f hfn).2.2
      have := h5 f hal (Or.inl hfl)
      unfold fr_rs fr_busy at this ⊢
      rw [eo f e, pk_un hfp, pk_un e, pk_un e]
      refine ⟨this.1, fun a b d => ?_⟩
      obtain ⟨x, y⟩ := this.2 a b d
      refine ⟨Or.inl x, fun hm => ?_⟩
      rcases List.mem_cons.mp hm with z | z
      · rcases hk with w | ⟨w, _⟩
        · exact d w
        · have := kidc _ _ w; omega
      · exact y z
  · by_cases en : f = n
    · subst en
      exact absurd eOn e
    · have hal : al f := hf.elim id (fun w => absurd w en)
      have hfn := h4 f hal
      rw [eo f en] at a b
      by_cases ep : f = p
      · subst ep
        by_cases z : ro = 0
        · rw [eO0 z, pk_us] at d
          exact absurd rfl d
        · rw [eO1 z] at e ⊢
          obtain ⟨x, y⟩ := hO z a b e
          refine ⟨Or.inl x, fun hm => ?_⟩
          rcases List.mem_cons.mp hm with w | w
          · have := h4 _ x; omega
          · exact y w
      · rw [eO f ep en] at d e ⊢
        rw [pk_un ep, pk_un en] at d
        obtain ⟨x, y⟩ := h6 f hal a b d e
        refine ⟨Or.inl x, fun hm => ?_⟩
        rcases List.mem_cons.mp hm with w | w
        · have := h4 _ x; omega
        · exact y w
end
/-! ===== counting frames ===== -/
def ct_s (w : Nat → Nat) (n : Nat) : Nat := vv_sm w n
theorem ct_n {w : Nat → Nat} {n : Nat} : vv_sm w (n + 1) = vv_sm w n + w n := rfl
theorem ct_u {w w' : Nat → Nat} {g : Nat} : ∀ {n : Nat}, g < n → (∀ f, f < n → f ≠ g → w' f = w f) → vv_sm w' n + w g = vv_sm w n + w' g := by
  intro n
  induction n with
  | zero => intro h; omega
  | succ n ih =>
    intro h e
    rw [ct_n, ct_n]
    by_cases z : g = n
    · subst z
      rw [vv_sm_c g (fun i hi => e i (by omega) (by omega))]
      omega
    · have h1 := ih (by omega) (fun f hf => e f (by omega))
      have h2 := e n (by omega) (fun w => z w.symm)
      omega
/-! ===== names: Y's chain of bindings ===== -/
def en_v (nm no : Nat → Int32) (nv : Nat → Int64) : Nat → Int32 → Nat → Int64
  | 0, _, _ => 0
  | t + 1, a, x => if a < 0 then 0 else if nm a.toNatClampNeg = nI x then nv a.toNatClampNeg else en_v nm no nv t (no a.toNatClampNeg) x
def en_e (nm no : Nat → Int32) (nv : Nat → Int64) (a : Int32) (x : Nat) : Int64 := en_v nm no nv (a.toNatClampNeg + 1) a x
def en_at (nd : Nat) (a : Int32) : Prop := a = -1 ∨ ∃ j, a = nI j ∧ j < nd
def en_ok (nd : Nat) (no : Nat → Int32) : Prop := nd ≤ 700 ∧ ∀ j, j < nd → en_at j (no j)
section
variable {nm no nm' no' : Nat → Int32} {nv nv' : Nat → Int64} {nd : Nat}
theorem en_m1 : ((-1 : Int32) < 0) := by decide
theorem en_v_m (t x : Nat) : en_v nm no nv t (-1) x = 0 := by
  cases t with
  | zero => rfl
  | succ t => rw [en_v, if_pos en_m1]
theorem en_v_f (h : en_ok nd no) : ∀ j, j < nd → ∀ t t' x, j < t → j < t' → en_v nm no nv t (nI j) x = en_v nm no nv t' (nI j) x := by
  obtain ⟨h7, h⟩ := h
  intro j
  induction j using Nat.strongRecOn with
  | _ j ih =>
    intro hj t t' x ht ht'
    obtain ⟨t, rfl⟩ : ∃ s, t = s + 1 := ⟨t - 1, by omega⟩
    obtain ⟨t', rfl⟩ : ∃ s, t' = s + 1 := ⟨t' - 1, by omega⟩
    have hp := nI_pos (n := j) (by omega)
    rw [en_v, en_v, if_neg hp, if_neg hp, nI_clamp (by omega)]
    rcases h j hj with e | ⟨i, e, hi⟩
    · rw [e, en_v_m, en_v_m]
    · rw [e, ih i hi (by omega) t t' x (by omega) (by omega)]
theorem en_v_st (h : en_ok nd no) (e : ∀ j, j < nd → nm' j = nm j ∧ no' j = no j ∧ nv' j = nv j) : ∀ t a x, en_at nd a → en_v nm' no' nv' t a x = en_v nm no nv t a x := by
  obtain ⟨h7, h⟩ := h
  intro t
  induction t with
  | zero => intro a x _; rfl
  | succ t ih =>
    intro a x ha
    rcases ha with rfl | ⟨j, rfl, hj⟩
    · rw [en_v_m, en_v_m]
    · have hp := nI_pos (n := j) (by omega)
      obtain ⟨e1, e2, e3⟩ := e j hj
      rw [en_v, en_v, if_neg hp, if_neg hp, nI_clamp (by omega), e1, e2, e3]
      have hat : en_at nd (no j) := by
        rcases h j hj with z | ⟨i, z, hi⟩
        · exact Or.inl z
        · exact Or.inr ⟨i, z, by omega⟩
      rw [ih (no j) x hat]
theorem en_e_st (h : en_ok nd no) (e : ∀ j, j < nd → nm' j = nm j ∧ no' j = no j ∧ nv' j = nv j) (a : Int32) (x : Nat) (ha : en_at nd a) : en_e nm' no' nv' a x = en_e nm no nv a x := en_v_st h e _ a x ha
theorem en_e_m (x : Nat) : en_e nm no nv (-1) x = 0 := en_v_m _ x
/-- a new binding -/
theorem en_e_b (h : en_ok nd no) (hn : nd < 700) {a : Int32} (ha : en_at nd a) {y : Nat} {w : Int64} (x : Nat) (hx : x < 3) (hy : y < 3) :
    en_e (upd nm nd (nI y)) (upd no nd a) (vp_updL nv nd w) (nI nd) x = if x = y then w else en_e nm no nv a x := by
  have hp := nI_pos (n := nd) (by omega)
  unfold en_e
  rw [nI_clamp (by omega), en_v, if_neg hp, nI_clamp (by omega), pk_us, pk_us, pk_uLs]
  by_cases z : x = y
  · rw [if_pos z, if_pos (by rw [z])]
  · rw [if_neg z, if_neg (fun e => z ((nI_eq (by omega) (by omega)).mp e).symm)]
    rw [en_v_st h (fun j hj => ⟨pk_un (by omega), pk_un (by omega), pk_uLn (by omega)⟩) nd a x ha]
    rcases ha with rfl | ⟨j, rfl, hj⟩
    · rw [en_v_m, en_v_m]
    · rw [nI_clamp (by omega)]
      exact en_v_f h j hj _ _ x hj (by omega)
theorem en_ok_b (h : en_ok nd no) (hn : nd < 700) {a : Int32} (ha : en_at nd a) : en_ok (nd + 1) (upd no nd a) := by
  obtain ⟨h7, h⟩ := h
  refine ⟨by omega, fun j hj => ?_⟩
  by_cases e : j = nd
  · subst e; rw [pk_us]; exact ha
  · rw [pk_un e]; exact h j (by omega)
theorem en_at_u {nd' : Nat} {a : Int32} (h : en_at nd a) (hn : nd ≤ nd') : en_at nd' a := by
  rcases h with z | ⟨j, z, hj⟩
  · exact Or.inl z
  · exact Or.inr ⟨j, z, by omega⟩
end
/-! ===== a frame of X and an application of Y ===== -/
def fr_S (R : Int32 → Int64 → Prop) (E : Int32 → Nat → Prop) (Dp : Int32 → Nat → Nat → Prop) (o : Nat) (x : Int32) (st : Nat) (fi gi ac ou he ya y1 y2 yW : Int32) (yK yL : Int64) : Prop :=
  (o < 16 → ac = -1 ∧ ou = -1 ∧ (gi = 0 ∨ gi = 1 ∨ o = 7 ∨ o = 15) ∧ (o ≠ 7 → o ≠ 8 → o ≠ 15 → gi = ya)) ∧
  (o = 7 → ∃ g, gi = nI g ∧ yW = nI g ∧ E fi g) ∧
  (o = 15 → (gi = 0 ∧ ya = 0) ∨ (ya = 1 ∧ ∃ g way, gi = nI (g + 1) ∧ yW = nI way ∧ Dp fi g way)) ∧
  (16 ≤ o → o ≤ 20 → ac = ou ∧ y1 = ou) ∧
  (o = 16 → (ou = -1 ∧ gi = 0 ∧ ya = 0 ∧ yW = 0) ∨ (ou ≠ -1 ∧ (gi = 0 ∨ gi = 1) ∧ ∃ a, ya = nI (a + 1) ∧ a < 8200)) ∧
  (o = 18 → ∃ g m, gi = nI g ∧ yW = nI g ∧ x = nI m ∧ g ≤ m ∧ m < 10) ∧
  (21 ≤ o → o ≤ 34 → y1 = ou ∧ ((y2 = -1 ∧ ac = ou) ∨ (y2 = ac ∧ ac ≠ -1 ∧ ou ≠ -1 ∧ ac ≠ ou))) ∧
  (23 ≤ o → o ≤ 29 → R he yK) ∧
  (o = 32 → (gi = 0 ∧ yW = 0) ∨ (yW = 1 ∧ ∃ g, gi = nI (g + 1) ∧ g < st)) ∧
  (o = 35 → y1 = ou ∧ ((ac = -1 ∧ ou = -1 ∧ gi = 0 ∧ ya = 0 ∧ y2 = -1 ∧ R he yK) ∨ (ou = -1 ∧ ac ≠ -1 ∧ gi = 0 ∧ ya = 0 ∧ y2 = ac ∧ R he yK) ∨ (ou ≠ -1 ∧ ac = ou ∧ gi = 0 ∧ ya = 1 ∧ R he yK) ∨ (ou ≠ -1 ∧ ac ≠ -1 ∧ ac ≠ ou ∧ gi = 0 ∧ ya = 2 ∧ y2 = ac ∧ R he yL) ∨ (ac ≠ -1 ∧ gi = 1 ∧ ya = 3)))
theorem fr_S_up {R R' : Int32 → Int64 → Prop} {E E' : Int32 → Nat → Prop} {Dp Dp' : Int32 → Nat → Nat → Prop} {o : Nat} {x : Int32} {st st' : Nat} {fi gi ac ou he ya y1 y2 yW : Int32} {yK yL : Int64}
    (hR : ∀ s w, R s w → R' s w) (hE : ∀ g, E fi g → E' fi g) (hD : ∀ g w, Dp fi g w → Dp' fi g w) (hs : st ≤ st') (h : fr_S R E Dp o x st fi gi ac ou he ya y1 y2 yW yK yL) : fr_S R' E' Dp' o x st' fi gi ac ou he ya y1 y2 yW yK yL := by
  obtain ⟨h1, h2, h3, h4, h5, h6, h7, h8, h9, h10⟩ := h
  refine ⟨h1, fun z => ?_, fun z => ?_, h4, h5, h6, h7, fun a b => hR _ _ (h8 a b), fun z => ?_, fun z => ?_⟩
  · obtain ⟨g, a, b, c⟩ := h2 z
    exact ⟨g, a, b, hE g c⟩
  · rcases h3 z with a | ⟨a, g, w, b, c, d⟩
    · exact Or.inl a
    · exact Or.inr ⟨a, g, w, b, c, hD g w d⟩
  · rcases h9 z with a | ⟨a, g, b, c⟩
    · exact Or.inl a
    · exact Or.inr ⟨a, g, b, by omega⟩
  · obtain ⟨a, b⟩ := h10 z
    refine ⟨a, ?_⟩
    rcases b with ⟨a1, a2, a3, a4, a5, a6⟩ | ⟨a1, a2, a3, a4, a5, a6⟩ | ⟨a1, a2, a3, a4, a5⟩ | ⟨a1, a2, a3, a4, a5, a6, a7⟩ | a1
    · exact Or.inl ⟨a1, a2, a3, a4, a5, hR _ _ a6⟩
    · exact Or.inr (Or.inl ⟨a1, a2, a3, a4, a5, hR _ _ a6⟩)
    · exact Or.inr (Or.inr (Or.inl ⟨a1, a2, a3, a4, hR _ _ a5⟩))
    · exact Or.inr (Or.inr (Or.inr (Or.inl ⟨a1, a2, a3, a4, a5, a6, hR _ _ a7⟩)))
    · exact Or.inr (Or.inr (Or.inr (Or.inr a1)))
def fr_R (R : Int32 → Int64 → Prop) (E : Int32 → Nat → Prop) (Dp : Int32 → Nat → Nat → Prop) (env : Int32 → Nat → Int64) (nd st : Nat) (pO pX fP fI fO fA fH fG fN yo : Nat → Int32) (yi : Nat → Int64) (yw ya y1 y2 : Nat → Int32) (yK : Nat → Int64) (yW : Nat → Int32) (yL : Nat → Int64) (f : Nat) : Prop :=
  fP f = yo f ∧ R (fI f) (yi f) ∧ en_at nd (yw f) ∧
  (∀ x, x < 3 → R (fN (f * 3 + x)) (env (yw f) x) ∨ ((fr_o pO fP f = 33 ∨ fr_o pO fP f = 35) ∧ pX (fP f).toNatClampNeg = nI x ∧ y1 f ≠ -1)) ∧
  fr_S R E Dp (fr_o pO fP f) (pX (fP f).toNatClampNeg) st (fI f) (fG f) (fA f) (fO f) (fH f) (ya f) (y1 f) (y2 f) (yW f) (yK f) (yL f)
