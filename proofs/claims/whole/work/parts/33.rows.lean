/-! ROWS -/
theorem b_eta {α : Type} (o : Option (α × St)) : (o.bind fun q => some (q.1, q.2)) = o := by cases o <;> rfl
theorem z1 : ((1 : Int32) = 0) = False := eq_false (by decide)
theorem zm1 : ((-1 : Int32) = 0) = False := eq_false (by decide)
theorem zm3 : ((-3 : Int32) = 0) = False := eq_false (by decide)
theorem zge1 : ((0 : Int32) ≤ -1) = False := eq_false (by decide)
theorem n40 : (40 : Int32) = nI 40 := by decide +kernel
theorem ix40 (r i : Nat) : (40 : Int32) * nI r + nI i = nI (40 * r + i) := by rw [n40, pk_mul, nI_add]
theorem m_rowAt {r i : Nat} (hr : r < 6) (hi : i < 40) (st : St) : f_X6_rowAt (nI r) (nI i) st = some (st.1 3 (40 * r + i), st) := by
  unfold f_X6_rowAt
  rw [ix40, gd_i _ (show 40 * r + i < 240 by omega) (by omega), nI_clamp (by omega)]
theorem t_row {sc sm : St} (h : RR sc sm) (x : Int32) : (f_X5_isRow x sc = some (0, sc) ∧ f_X6_isRow x sm = some (0, sm)) ∨ ∃ r, r < 6 ∧ x = nI r ∧ f_X5_isRow x sc = some (1, sc) ∧ f_X6_isRow x sm = some (1, sm) ∧ ((sc.1 8 r = -1 ∧ sm.1 2 r = -1) ∨ ∃ n, n ≤ 40 ∧ sc.1 8 r = nI n ∧ sm.1 2 r = nI n ∧ ∀ i, i < n → sc.1 (2 + r) i = sm.1 3 (40 * r + i)) := by
  rcases t_isRow x sc sm with ⟨r, hr, rfl, e1, e2⟩ | h
  · right
    refine ⟨r, hr, rfl, e1, e2, ?_⟩
    obtain ⟨a, b | ⟨n, b1, b2, b3⟩⟩ := h.2.1 r hr
    · exact Or.inl ⟨a.trans b, b⟩
    · exact Or.inr ⟨n, b1, a.trans b2, b2, b3⟩
  · exact Or.inl h
theorem R_row {sc sm sc' sm' : St} (h : RR sc sm) (r : Nat) (hc : ∀ k, k ≠ 8 → k ≠ 2 + r → sc'.1 k = sc.1 k) (hr : r < 6) (hc2 : sc'.2 = sc.2) (hm : ∀ k, k ≠ 2 → k ≠ 3 → k ≠ 4 → k ≠ 21 → sm'.1 k = sm.1 k) (hm2 : sm'.2 = sm.2) (h8 : ∀ q, q ≠ r → sc'.1 8 q = sc.1 8 q) (h2 : ∀ q, q ≠ r → sm'.1 2 q = sm.1 2 q) (h3 : ∀ q, q < 6 → q ≠ r → ∀ i, i < 40 → sm'.1 3 (40 * q + i) = sm.1 3 (40 * q + i))
    (hr' : sc'.1 8 r = sm'.1 2 r ∧ (sm'.1 2 r = -1 ∨ ∃ n, n ≤ 40 ∧ sm'.1 2 r = nI n ∧ ∀ i, i < n → sc'.1 (2 + r) i = sm'.1 3 (40 * r + i))) : RR sc' sm' := by
  refine ⟨RS_congr (fun k h1 h2 => hc k (by omega) (by omega)) (fun k h1 h2 h3 => hm k (by omega) (by omega) (by omega) (by omega)) (by rw [hm 0 (by omega) (by omega) (by omega) (by omega)]) (by rw [hm 0 (by omega) (by omega) (by omega) (by omega)]) h.1, ?_, RX_congr (fun k h1 h2 => hc k (by omega) (by omega)) (hm 5 (by omega) (by omega) (by omega) (by omega)) (hm 6 (by omega) (by omega) (by omega) (by omega)) h.2.2.1, ?_⟩
  · intro q hq
    by_cases e : q = r
    · subst e; exact hr'
    · rw [h8 q e, h2 q e, hc (2 + q) (by omega) (by omega)]
      obtain ⟨a, b | ⟨n, b1, b2, b3⟩⟩ := h.2.1 q hq
      · exact ⟨a, Or.inl b⟩
      · exact ⟨a, Or.inr ⟨n, b1, b2, fun i hi => by rw [h3 q hq e i (by omega)]; exact b3 i hi⟩⟩
  · obtain ⟨a, b, c, d, e⟩ := h.2.2.2
    unfold RF
    rw [hc 0 (by omega) (by omega), hc 43 (by omega) (by omega), hm 0 (by omega) (by omega) (by omega) (by omega), hm 1 (by omega) (by omega) (by omega) (by omega), hc2, hm2]
    exact ⟨a, b, c, d, e⟩
theorem e_rr0 {sc : St} {x : Int32} (e : f_X5_isRow x sc = some (0, sc)) : f_X5_rowRefusal x sc = some (-1, sc) := by
  unfold f_X5_rowRefusal
  rw [e]
  rfl
theorem e_rr1 {sc : St} {r : Nat} (hr : r < 6) (e : f_X5_isRow (nI r) sc = some (1, sc)) (a : sc.1 8 r = -1) : f_X5_rowRefusal (nI r) sc = f_X5_found 1 sc := by
  unfold f_X5_rowRefusal
  rw [e]
  simp only [b_s, b_eta, gd_i _ hr (show 6 < 2 ^ 31 by omega), nI_clamp (show r < 2 ^ 31 by omega), a]
  rw [if_neg (by decide), if_neg (by decide)]
theorem e_rr2 {sc : St} {r n : Nat} (hr : r < 6) (hn : n < 2 ^ 31) (e : f_X5_isRow (nI r) sc = some (1, sc)) (a : sc.1 8 r = nI n) : f_X5_rowRefusal (nI r) sc = some (0, sc) := by
  unfold f_X5_rowRefusal
  rw [e]
  simp only [b_s, b_eta, gd_i _ hr (show 6 < 2 ^ 31 by omega), nI_clamp (show r < 2 ^ 31 by omega), a]
  rw [if_neg (by decide), if_pos (nI_pos' hn)]
theorem s_tear {sc sm : St} (h : RR sc sm) (x : Int32) : Sim (f_X5_tear x sc) (f_X6_tear x sm) := by
  unfold f_X5_tear f_X6_tear
  rcases t_row h x with ⟨e1, e2⟩ | ⟨r, hr, rfl, e1, e2, ⟨a, b⟩ | ⟨n, hn, a, b, c⟩⟩
  · rw [e_rr0 e1, e2]
    exact ⟨-1, sc, sm, rfl, rfl, h⟩
  · obtain ⟨sc', sm', f1, f2, h'⟩ := s_found h (x := 1) 1 (by omega) (by decide +kernel)
    rw [e_rr1 hr e1 a, f1, e2]
    refine ⟨-3, sc', sm', rfl, ?_, h'⟩
    simp only [b_s, gd_i _ hr (show 6 < 2 ^ 31 by omega), nI_clamp (show r < 2 ^ 31 by omega), b, b_eta, f2]
    rw [if_neg (by decide), if_neg (by decide)]
  · rw [e_rr2 hr (by omega) e1 a, e2]
    refine ⟨1, sA sc 8 (upd (sc.1 8) r (-1)), sA sm 2 (upd (sm.1 2) r (-1)), ?_, ?_, ?_⟩
    · simp only [b_s, gd_i _ hr (show 6 < 2 ^ 31 by omega), nI_clamp (show r < 2 ^ 31 by omega), ls_e]
      rfl
    · simp only [b_s, gd_i _ hr (show 6 < 2 ^ 31 by omega), nI_clamp (show r < 2 ^ 31 by omega), ls_e, b]
      rw [if_neg (by decide), if_pos (nI_pos' (by omega))]
    · refine R_row h r (fun k h1 h2 => sA_n h1) hr rfl (fun k h1 h2 h3 h4 => sA_n h1) rfl (fun q hq => by rw [sA_k, pk_un hq]) (fun q hq => by rw [sA_k, pk_un hq]) (fun q _ _ i _ => by rw [sA_n (by omega)]) ⟨by rw [sA_k, sA_k, pk_us, pk_us], Or.inl (by rw [sA_k, pk_us])⟩
/-- making a row -/
theorem c_make {sc : St} {r n : Nat} (hr : r < 6) (hn : n ≤ 40) : ∃ sc', f_X5_makeRow (nI r) (nI n) sc = some sc' ∧ (∀ k, k ≠ 8 → k ≠ 2 + r → sc'.1 k = sc.1 k) ∧ sc'.2 = sc.2 ∧ sc'.1 8 = upd (sc.1 8) r (nI n) ∧ ∀ i, i < n → sc'.1 (2 + r) i = 0 := by
  unfold f_X5_makeRow
  have hl := iter_inv (body := fun v : Int32 × St => l_X5_makeRow_2 (nI r) (nI n) v.1 v.2) (Out := fun g => (∀ k, k ≠ 2 + r → g.2.1 k = sc.1 k) ∧ g.2.2 = sc.2 ∧ ∀ i, i < n → g.2.1 (2 + r) i = 0)
    (fun k v => v.1 = nI k ∧ (∀ q, q ≠ 2 + r → v.2.1 q = sc.1 q) ∧ v.2.2 = sc.2 ∧ ∀ i, i < k → v.2.1 (2 + r) i = 0) n (by omega) (by
      rintro k ⟨v, st⟩ hk ⟨e, h1, h2, h3⟩
      dsimp only at e h1 h2 h3 ⊢
      subst e
      unfold l_X5_makeRow_2
      by_cases hkn : k < n
      · left
        refine ⟨hkn, (nI (k + 1), sA st (2 + r) (upd (st.1 (2 + r)) k 0)), ?_, rfl, fun q hq => by rw [sA_n hq]; exact h1 q hq, h2, fun i hi => ?_⟩
        · rw [if_neg (nI_ge hkn (by omega)), gd_i _ hr (by omega), gd_i _ (show k < 40 by omega) (by omega), ls_e, nI_clamp (show r < 2 ^ 31 by omega), nI_clamp (show k < 2 ^ 31 by omega), nI_1]
        · dsimp only
          rw [sA_k]
          by_cases e : i = k
          · subst e; rw [pk_us]
          · rw [pk_un e]; exact h3 i (by omega)
      · right
        have : k = n := by omega
        subst this
        exact ⟨(nI k, st), by rw [if_pos (nI_le (Nat.le_refl k) (by omega))], h1, h2, h3⟩) (v := (0, sc)) ⟨nI_0.symm, fun _ _ => rfl, rfl, fun i hi => by omega⟩
  obtain ⟨g, e, h1, h2, h3⟩ := hl
  rw [e]
  refine ⟨sA g.2 8 (upd (g.2.1 8) r (nI n)), ?_, fun k hk1 hk2 => by rw [sA_n hk1]; exact h1 k hk2, h2, by rw [sA_k, h1 8 (by omega)], fun i hi => by rw [sA_n (by omega)]; exact h3 i hi⟩
  rw [b_s, gd_i _ hr (by omega), ls_e, nI_clamp (show r < 2 ^ 31 by omega)]
theorem s_row {sc sm : St} (h : RR sc sm) (x y : Int32) : Sim (f_X5_row x y sc) (f_X6_row x y sm) := by
  unfold f_X5_row f_X6_row
  rcases t_isRow x sc sm with ⟨r, hr, rfl, e1, e2⟩ | ⟨e1, e2⟩
  · rw [e1, e2]
    simp only [b_s, b_eta, z1, if_false]
    by_cases hy : y ≤ 40
    · rw [if_pos hy, if_pos hy]
      by_cases hy0 : 0 ≤ y
      · rw [if_pos hy0, if_pos hy0]
        obtain ⟨n, hn, rfl⟩ := nI_of2 (M := 40) (n := 40) (by decide +kernel) (Int32.not_lt.mpr hy0) hy
        obtain ⟨sc', e3, p1, p2, p3, p4⟩ := c_make (sc := sc) hr hn
        rw [e3]
        have hl := iter_inv (body := fun v : Int32 × St => l_X6_row_34 (nI r) (nI n) v.1 v.2) (Out := fun g => (∀ k, k ≠ 3 → k ≠ 2 → g.2.1 k = sm.1 k) ∧ g.2.2 = sm.2 ∧ g.2.1 2 = upd (sm.1 2) r (nI n) ∧ (∀ i, i < 40 → g.2.1 3 (40 * r + i) = 0) ∧ ∀ q, q < 6 → q ≠ r → ∀ i, i < 40 → g.2.1 3 (40 * q + i) = sm.1 3 (40 * q + i))
          (fun k v => v.1 = nI k ∧ (∀ q, q ≠ 3 → q ≠ 2 → v.2.1 q = sm.1 q) ∧ v.2.2 = sm.2 ∧ v.2.1 2 = upd (sm.1 2) r (nI n) ∧ (∀ i, i < k → v.2.1 3 (40 * r + i) = 0) ∧ ∀ q, q < 6 → q ≠ r → ∀ i, i < 40 → v.2.1 3 (40 * q + i) = sm.1 3 (40 * q + i)) 40 (by omega) (by
            rintro k ⟨v, st⟩ hk ⟨e, h1, h2, h3, h4, h5⟩
            dsimp only at e h1 h2 h3 h4 h5 ⊢
            subst e
            unfold l_X6_row_34
            rw [n40]
            by_cases hkn : k < 40
            · left
              refine ⟨hkn, (nI (k + 1), sA st 3 (upd (st.1 3) (40 * r + k) 0)), ?_, rfl, fun q hq hq2 => by rw [sA_n hq]; exact h1 q hq hq2, h2, by rw [sA_n (by omega)]; exact h3, fun i hi => ?_, fun q hq hqr i hi => ?_⟩
              · rw [if_neg (nI_ge hkn (by omega)), ← n40, ix40, gd_i _ (show 40 * r + k < 240 by omega) (by omega), ls_e, nI_clamp (show 40 * r + k < 2 ^ 31 by omega), nI_1]
              · dsimp only
                rw [sA_k]
                by_cases e : i = k
                · subst e; rw [pk_us]
                · rw [pk_un (by omega)]; exact h4 i (by omega)
              · dsimp only
                rw [sA_k, pk_un (by omega)]
                exact h5 q hq hqr i hi
            · right
              have : k = 40 := by omega
              subst this
              exact ⟨(nI 40, st), by rw [if_pos (nI_le (Nat.le_refl 40) (by omega))], h1, h2, h3, h4, h5⟩) (v := (0, sA sm 2 (upd (sm.1 2) r (nI n)))) ⟨nI_0.symm, fun q _ hq => sA_n hq, rfl, sA_k, fun i hi => by omega, fun q _ _ i _ => by rw [sA_n (by omega)]⟩
        obtain ⟨g, e4, q1, q2, q3, q4, q5⟩ := hl
        rw [gd_i _ hr (by omega), ls_e, nI_clamp (show r < 2 ^ 31 by omega), e4]
        refine ⟨nI n, sc', g.2, rfl, rfl, ?_⟩
        refine R_row h r p1 hr p2 (fun k h1 h2 _ _ => q1 k h2 h1) q2 (fun q hq => by rw [p3, pk_un hq]) (fun q hq => by rw [q3, pk_un hq]) q5 ⟨by rw [p3, q3, pk_us, pk_us], Or.inr ⟨n, hn, by rw [q3, pk_us], fun i hi => by rw [p4 i hi, q4 i (by omega)]⟩⟩
      · rw [if_neg hy0, if_neg hy0]
        obtain ⟨sc', sm', f1, f2, h'⟩ := s_found h (x := 5) 5 (by omega) (by decide +kernel)
        exact ⟨-3, sc', sm', f1, f2, h'⟩
    · rw [if_neg hy, if_neg hy]
      exact ⟨-1, sc, sm, rfl, rfl, h⟩
  · rw [e1, e2]
    exact ⟨-1, sc, sm, rfl, rfl, h⟩
