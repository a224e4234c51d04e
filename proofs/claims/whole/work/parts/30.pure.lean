/-! PURE: small numbers, loops, guards -/
theorem b_s {α β : Type} (x : α) (f : α → Option β) : (some x).bind f = f x := rfl
theorem lw_e {β α : Type} (x : β) (f : β → Option α) : lw x f = f x := rfl
theorem ls_e {α : Type} (x : St) (f : St → Option α) : ls x f = f x := rfl
theorem gd_t {α : Type} {b : Bool} (x : Option α) (h : b = true) : gd b x = x := if_pos h
theorem inb_n {k n : Nat} (h : k < n) (hn : n < 2 ^ 31) : inb (nI k) n = true := by
  unfold inb
  simp only [Bool.and_eq_true, decide_eq_true_eq]
  exact ⟨nI_pos' (by omega), by rw [nI_clamp (by omega)]; exact h⟩
theorem gd_i {α : Type} {k n : Nat} (x : Option α) (h : k < n) (hn : n < 2 ^ 31) : gd (inb (nI k) n) x = x := gd_t x (inb_n h hn)
theorem if_y {α : Type} {c : Prop} {hd : Decidable c} {a b : α} (hc : c) : (if c then a else b) = a := if_pos hc
theorem if_n {α : Type} {c : Prop} {hd : Decidable c} {a b : α} (hc : ¬ c) : (if c then a else b) = b := if_neg hc
theorem iter_fold {β γ : Type} {body : β → Option (β ⊕ γ)} (F : Nat → β) (N : Nat) (g : γ) (hN : N < 5000) (hs : ∀ k, k < N → body (F k) = some (.inl (F (k + 1)))) (he : body (F N) = some (.inr g)) : iter body fuel (F 0) = some g := by
  have key : ∀ (j k : Nat), k + j = N → ∀ n, j < n → iter body n (F k) = some g := by
    intro j
    induction j with
    | zero =>
      intro k hk n hn
      obtain ⟨n, rfl⟩ : ∃ m, n = m + 1 := ⟨n - 1, by omega⟩
      have hkN : k = N := by omega
      subst hkN
      show (body (F k)).bind _ = _
      rw [he]
      rfl
    | succ j ih =>
      intro k hk n hn
      obtain ⟨n, rfl⟩ : ∃ m, n = m + 1 := ⟨n - 1, by omega⟩
      show (body (F k)).bind _ = _
      rw [hs k (by omega)]
      exact ih (k + 1) (by omega) n (by omega)
  exact key N 0 (by omega) fuel (by rw [fuel_eq]; omega)
/-- two loops side by side -/
theorem iter_two {β γ β' γ' : Type} {body : β → Option (β ⊕ γ)} {body' : β' → Option (β' ⊕ γ')} {Out : γ → γ' → Prop} (S : Nat → β → β' → Prop) (N : Nat) (hN : N < 5000)
    (h : ∀ k v v', k ≤ N → S k v v' → (k < N ∧ ∃ w w', body v = some (.inl w) ∧ body' v' = some (.inl w') ∧ S (k + 1) w w') ∨ (∃ g g', body v = some (.inr g) ∧ body' v' = some (.inr g') ∧ Out g g'))
    {v : β} {v' : β'} (h0 : S 0 v v') : ∃ g g', iter body fuel v = some g ∧ iter body' fuel v' = some g' ∧ Out g g' := by
  have key : ∀ (j k : Nat), k + j = N → ∀ n v v', j < n → S k v v' → ∃ g g', iter body n v = some g ∧ iter body' n v' = some g' ∧ Out g g' := by
    intro j
    induction j with
    | zero =>
      intro k hk n v v' hn hS
      obtain ⟨n, rfl⟩ : ∃ m, n = m + 1 := ⟨n - 1, by omega⟩
      rcases h k v v' (by omega) hS with ⟨h1, _⟩ | ⟨g, g', e1, e2, ho⟩
      · omega
      · refine ⟨g, g', ?_, ?_, ho⟩
        · show (body v).bind _ = _
          rw [e1]; rfl
        · show (body' v').bind _ = _
          rw [e2]; rfl
    | succ j ih =>
      intro k hk n v v' hn hS
      obtain ⟨n, rfl⟩ : ∃ m, n = m + 1 := ⟨n - 1, by omega⟩
      rcases h k v v' (by omega) hS with ⟨h1, w, w', e1, e2, hS2⟩ | ⟨g, g', e1, e2, ho⟩
      · obtain ⟨g, g', i1, i2, ho⟩ := ih (k + 1) (by omega) n w w' (by omega) hS2
        refine ⟨g, g', ?_, ?_, ho⟩
        · show (body v).bind _ = _
          rw [e1]; exact i1
        · show (body' v').bind _ = _
          rw [e2]; exact i2
      · refine ⟨g, g', ?_, ?_, ho⟩
        · show (body v).bind _ = _
          rw [e1]; rfl
        · show (body' v').bind _ = _
          rw [e2]; rfl
  exact key N 0 (by omega) fuel v v' (by rw [fuel_eq]; omega) h0
/-- a loop with an invariant, that ends -/
theorem iter_inv {β γ : Type} {body : β → Option (β ⊕ γ)} {Out : γ → Prop} (S : Nat → β → Prop) (N : Nat) (hN : N < 5000)
    (h : ∀ k v, k ≤ N → S k v → (k < N ∧ ∃ w, body v = some (.inl w) ∧ S (k + 1) w) ∨ (∃ g, body v = some (.inr g) ∧ Out g))
    {v : β} (h0 : S 0 v) : ∃ g, iter body fuel v = some g ∧ Out g := by
  have key : ∀ (j k : Nat), k + j = N → ∀ n v, j < n → S k v → ∃ g, iter body n v = some g ∧ Out g := by
    intro j
    induction j with
    | zero =>
      intro k hk n v hn hS
      obtain ⟨n, rfl⟩ : ∃ m, n = m + 1 := ⟨n - 1, by omega⟩
      rcases h k v (by omega) hS with ⟨h1, _⟩ | ⟨g, e1, ho⟩
      · omega
      · refine ⟨g, ?_, ho⟩
        show (body v).bind _ = _
        rw [e1]; rfl
    | succ j ih =>
      intro k hk n v hn hS
      obtain ⟨n, rfl⟩ : ∃ m, n = m + 1 := ⟨n - 1, by omega⟩
      rcases h k v (by omega) hS with ⟨h1, w, e1, hS2⟩ | ⟨g, e1, ho⟩
      · obtain ⟨g, i1, ho⟩ := ih (k + 1) (by omega) n w (by omega) hS2
        refine ⟨g, ?_, ho⟩
        show (body v).bind _ = _
        rw [e1]; exact i1
      · refine ⟨g, ?_, ho⟩
        show (body v).bind _ = _
        rw [e1]; rfl
  exact key N 0 (by omega) fuel v (by rw [fuel_eq]; omega) h0
/-- literals are small numbers -/
theorem n_le {a : Nat} {x : Int32} (b : Nat) (hx : x = nI b) (ha : a < 2 ^ 31) (hb : b < 2 ^ 31) : (nI a ≤ x) ↔ a ≤ b := by subst hx; exact nI_leI ha hb
theorem n_ge {a : Nat} {x : Int32} (b : Nat) (hx : x = nI b) (ha : a < 2 ^ 31) (hb : b < 2 ^ 31) : (x ≤ nI a) ↔ b ≤ a := by subst hx; exact nI_leI hb ha
theorem n_lt {a : Nat} {x : Int32} (b : Nat) (hx : x = nI b) (ha : a < 2 ^ 31) (hb : b < 2 ^ 31) : (nI a < x) ↔ a < b := by subst hx; exact nI_ltI ha hb
theorem n_gt {a : Nat} {x : Int32} (b : Nat) (hx : x = nI b) (ha : a < 2 ^ 31) (hb : b < 2 ^ 31) : (x < nI a) ↔ b < a := by subst hx; exact nI_ltI hb ha
/-- a number is one of n places, or below, or above -/
theorem ix {x : Int32} (n : Nat) (hn : n < 2 ^ 31) : (∃ j, j < n ∧ x = nI j) ∨ (x < 0 ∧ ¬ nI n ≤ x) ∨ (¬ x < 0 ∧ nI n ≤ x) := by
  rcases pk_ix x hn with h | h | h
  · refine Or.inr (Or.inl ⟨h, fun q => ?_⟩)
    have := Int32.lt_iff_toInt_lt.mp h
    have := Int32.le_iff_toInt_le.mp q
    rw [nI_toInt hn] at this
    simp at *
    omega
  · refine Or.inr (Or.inr ⟨fun q => ?_, h⟩)
    have := Int32.lt_iff_toInt_lt.mp q
    have := Int32.le_iff_toInt_le.mp h
    rw [nI_toInt hn] at this
    simp at *
    omega
  · exact Or.inl h
