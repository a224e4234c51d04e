/-! lay, at, mean, copy -/
theorem t_place {n : Nat} (hn : n ≤ 1000) (x : Int32) (sm : St) : (∃ i, i < n ∧ x = nI i ∧ f_X6_in x 0 (nI n - 1) sm = some (1, sm)) ∨ (f_X6_in x 0 (nI n - 1) sm = some (0, sm) ∧ (x < 0 ∨ (¬ x < 0 ∧ ¬ x < nI n))) := by
  rw [m_in]
  rcases ix (x := x) n (by omega) with ⟨j, hj, rfl⟩ | ⟨h1, h2⟩ | ⟨h1, h2⟩
  · refine Or.inl ⟨j, by omega, rfl, ?_⟩
    rw [if_neg (nI_pos (by omega)), if_neg]
    obtain ⟨m, rfl⟩ : ∃ m, n = m + 1 := ⟨n - 1, by omega⟩
    rw [nI_pred]
    exact nI_nlt (by omega) (by omega)
  · exact Or.inr ⟨by rw [if_pos h1], Or.inl h1⟩
  · refine Or.inr ⟨?_, Or.inr ⟨h1, Int32.not_lt.mpr h2⟩⟩
    rw [if_neg h1, if_pos]
    have a := Int32.le_iff_toInt_le.mp h2
    rw [nI_toInt (by omega)] at a
    rw [Int32.lt_iff_toInt_lt]
    cases n with
    | zero =>
      rw [show nI 0 - 1 = -1 by decide +kernel]
      show (-1 : Int) < _
      omega
    | succ m =>
      rw [nI_pred, nI_toInt (by omega)]
      omega
theorem e_pr0 {sc : St} {x y : Int32} (e : f_X5_isRow x sc = some (0, sc)) : f_X5_placeRefusal x y sc = some (-1, sc) := by
  unfold f_X5_placeRefusal
  rw [e_rr0 e]
  simp only [b_s, zm1, if_false]
theorem e_pr1 {sc sc' : St} {r : Nat} {y : Int32} (hr : r < 6) (e : f_X5_isRow (nI r) sc = some (1, sc)) (a : sc.1 8 r = -1) (f1 : f_X5_found 1 sc = some (-3, sc')) : f_X5_placeRefusal (nI r) y sc = some (-3, sc') := by
  unfold f_X5_placeRefusal
  rw [e_rr1 hr e a, f1]
  simp only [b_s, zm3, if_false]
theorem e_pr2 {sc : St} {r n : Nat} {y : Int32} (hr : r < 6) (hn : n < 2 ^ 31) (e : f_X5_isRow (nI r) sc = some (1, sc)) (a : sc.1 8 r = nI n) : f_X5_placeRefusal (nI r) y sc = if y < 0 then f_X5_found 2 sc else if y < nI n then some (0, sc) else f_X5_found 2 sc := by
  unfold f_X5_placeRefusal
  rw [e_rr2 hr hn e a]
  simp only [b_s, b_eta, if_true, gd_i _ hr (show 6 < 2 ^ 31 by omega), nI_clamp (show r < 2 ^ 31 by omega), a]
theorem t_pl {sc sm : St} (h : RR sc sm) (x y : Int32) : (f_X5_placeRefusal x y sc = some (-1, sc) ∧ f_X6_isRow x sm = some (0, sm)) ∨ ∃ r, r < 6 ∧ x = nI r ∧ f_X6_isRow x sm = some (1, sm) ∧
    ((∃ sc' sm', f_X5_placeRefusal x y sc = some (-3, sc') ∧ f_X6_meets 1 sm = some (-3, sm') ∧ RR sc' sm' ∧ sm.1 2 r = -1) ∨ ∃ n, n ≤ 40 ∧ sc.1 8 r = nI n ∧ sm.1 2 r = nI n ∧ (∀ i, i < n → sc.1 (2 + r) i = sm.1 3 (40 * r + i)) ∧
      ((∃ sc' sm', f_X5_placeRefusal x y sc = some (-3, sc') ∧ f_X6_in y 0 (nI n - 1) sm = some (0, sm) ∧ f_X6_meets 2 sm = some (-3, sm') ∧ RR sc' sm') ∨ ∃ i, i < n ∧ y = nI i ∧ f_X5_placeRefusal x y sc = some (0, sc) ∧ f_X6_in y 0 (nI n - 1) sm = some (1, sm))) := by
  rcases t_row h x with ⟨e1, e2⟩ | ⟨r, hr, rfl, e1, e2, ⟨a, b⟩ | ⟨n, hn, a, b, c⟩⟩
  · exact Or.inl ⟨e_pr0 e1, e2⟩
  · obtain ⟨sc', sm', f1, f2, h'⟩ := s_found h (x := 1) 1 (by omega) (by decide +kernel)
    exact Or.inr ⟨r, hr, rfl, e2, Or.inl ⟨sc', sm', e_pr1 hr e1 a f1, f2, h', b⟩⟩
  · refine Or.inr ⟨r, hr, rfl, e2, Or.inr ⟨n, hn, a, b, c, ?_⟩⟩
    obtain ⟨sc', sm', f1, f2, h'⟩ := s_found h (x := 2) 2 (by omega) (by decide +kernel)
    rw [e_pr2 hr (by omega) e1 a]
    rcases t_place (n := n) (by omega) y sm with ⟨i, hi, rfl, e3⟩ | ⟨e3, q | ⟨q1, q2⟩⟩
    · exact Or.inr ⟨i, hi, rfl, by rw [if_neg (nI_pos (by omega)), if_pos (nI_lt hi (by omega))], e3⟩
    · exact Or.inl ⟨sc', sm', by rw [if_pos q]; exact f1, e3, f2, h'⟩
    · exact Or.inl ⟨sc', sm', by rw [if_neg q1, if_neg q2]; exact f1, e3, f2, h'⟩
theorem s_at {sc sm : St} (h : RR sc sm) (x y : Int32) : Sim (f_X5_at x y sc) (f_X6_at x y sm) := by
  unfold f_X5_at f_X6_at
  rcases t_pl h x y with ⟨e1, e2⟩ | ⟨r, hr, rfl, e2, ⟨sc', sm', e1, f2, h', b⟩ | ⟨n, hn, a, b, c, ⟨sc', sm', e1, e3, f2, h'⟩ | ⟨i, hi, rfl, e1, e3⟩⟩⟩
  · rw [e1, e2]
    exact ⟨-1, sc, sm, rfl, rfl, h⟩
  · rw [e1, e2]
    refine ⟨-3, sc', sm', rfl, ?_, h'⟩
    simp only [b_s, z1, if_false, gd_i _ hr (show 6 < 2 ^ 31 by omega), nI_clamp (show r < 2 ^ 31 by omega), b, zge1, b_eta, f2]
  · rw [e1, e2]
    refine ⟨-3, sc', sm', rfl, ?_, h'⟩
    simp only [b_s, z1, if_false, if_true, gd_i _ hr (show 6 < 2 ^ 31 by omega), nI_clamp (show r < 2 ^ 31 by omega), b, if_y (nI_pos' (show n < 2 ^ 31 by omega)), e3, b_eta, f2]
  · rw [e1, e2]
    refine ⟨1, _, _, ?_, ?_, s_ask h (sc.1 (2 + r) i)⟩
    · simp only [b_s, if_true, gd_i _ hr (show 6 < 2 ^ 31 by omega), gd_i _ (show i < 40 by omega) (show 40 < 2 ^ 31 by omega), nI_clamp (show r < 2 ^ 31 by omega), nI_clamp (show i < 2 ^ 31 by omega), ls_e]
    · simp only [b_s, z1, if_false, gd_i _ hr (show 6 < 2 ^ 31 by omega), nI_clamp (show r < 2 ^ 31 by omega), b, if_y (nI_pos' (show n < 2 ^ 31 by omega)), e3, b_eta, m_rowAt hr (show i < 40 by omega)]
      unfold f_X6_tells
      rw [ls_e, c i hi]
theorem s_lay {sc sm : St} (h : RR sc sm) (x y z : Int32) : Sim (f_X5_lay x y z sc) (f_X6_lay x y z sm) := by
  unfold f_X5_lay f_X6_lay
  rcases t_pl h x y with ⟨e1, e2⟩ | ⟨r, hr, rfl, e2, ⟨sc', sm', e1, f2, h', b⟩ | ⟨n, hn, a, b, c, ⟨sc', sm', e1, e3, f2, h'⟩ | ⟨i, hi, rfl, e1, e3⟩⟩⟩
  · rw [e1, e2]
    exact ⟨-1, sc, sm, rfl, rfl, h⟩
  · rw [e1, e2]
    refine ⟨-3, sc', sm', rfl, ?_, h'⟩
    simp only [b_s, z1, if_false, gd_i _ hr (show 6 < 2 ^ 31 by omega), nI_clamp (show r < 2 ^ 31 by omega), b, zge1, b_eta, f2]
  · rw [e1, e2]
    refine ⟨-3, sc', sm', rfl, ?_, h'⟩
    simp only [b_s, z1, if_false, if_true, gd_i _ hr (show 6 < 2 ^ 31 by omega), nI_clamp (show r < 2 ^ 31 by omega), b, if_y (nI_pos' (show n < 2 ^ 31 by omega)), e3, b_eta, f2]
  · rw [e1, e2]
    have h1 := s_ask h (sc.1 (2 + r) i)
    refine ⟨1, sA (sA sc 0 (upd (sc.1 0) 9 (sc.1 (2 + r) i))) (2 + r) (upd (sc.1 (2 + r)) i z), sA (sA sm 3 (upd (sm.1 3) (40 * r + i) z)) 0 (upd (sm.1 0) 2 (sc.1 (2 + r) i)), ?_, ?_, ?_⟩
    · simp only [b_s, if_true, gd_i _ hr (show 6 < 2 ^ 31 by omega), gd_i _ (show i < 40 by omega) (show 40 < 2 ^ 31 by omega), nI_clamp (show r < 2 ^ 31 by omega), nI_clamp (show i < 2 ^ 31 by omega), ls_e, sA_n (st := sc) (k := 0) (i := 2 + r) (by omega)]
    · simp only [b_s, z1, if_false, gd_i _ hr (show 6 < 2 ^ 31 by omega), nI_clamp (show r < 2 ^ 31 by omega), b, if_y (nI_pos' (show n < 2 ^ 31 by omega)), e3, b_eta, m_rowAt hr (show i < 40 by omega), ix40, gd_i _ (show 40 * r + i < 240 by omega) (show 240 < 2 ^ 31 by omega), nI_clamp (show 40 * r + i < 2 ^ 31 by omega), ls_e]
      unfold f_X6_tells
      rw [ls_e, c i hi, sA_n (st := sm) (k := 3) (i := 0) (by omega)]
    · refine R_row h1 r (fun k _ k2 => sA_n k2) hr rfl (fun k k1 k2 k3 k4 => ?_) rfl (fun q _ => by rw [sA_n (by omega)]) (fun q _ => by rw [sA_n (by omega), sA_n (by omega), sA_n (by omega)]) (fun q hq hqr j hj => ?_) ⟨?_, Or.inr ⟨n, hn, ?_, fun j hj => ?_⟩⟩
      · by_cases k0 : k = 0
        · subst k0; rw [sA_k, sA_k]
        · rw [sA_n k0, sA_n k2, sA_n k0]
      · rw [sA_n (by omega), sA_k, pk_un (by omega), sA_n (by omega)]
      · rw [sA_n (by omega), sA_n (by omega), sA_n (by omega), sA_n (by omega), a, b]
      · rw [sA_n (by omega), sA_n (by omega), b]
      · rw [sA_k, sA_n (by omega), sA_k]
        by_cases e : j = i
        · subst e; rw [pk_us, pk_us]
        · rw [pk_un e, pk_un (by omega)]; exact c j hj
/-- the sum of a row's ints -/
def msum (f : Nat → Int32) : Nat → Int64
  | 0 => 0
  | k + 1 => msum f k + (f k).toInt64
theorem msum_congr {f g : Nat → Int32} : ∀ (n : Nat), (∀ i, i < n → f i = g i) → msum f n = msum g n
  | 0, _ => rfl
  | n + 1, h => by
    show msum f n + _ = msum g n + _
    rw [msum_congr n (fun i hi => h i (by omega)), h n (by omega)]
theorem s_mean {sc sm : St} (h : RR sc sm) (x : Int32) : Sim (f_X5_mean x sc) (f_X6_mean x sm) := by
  unfold f_X5_mean f_X6_mean
  rcases t_row h x with ⟨e1, e2⟩ | ⟨r, hr, rfl, e1, e2, ⟨a, b⟩ | ⟨n, hn, a, b, c⟩⟩
  · rw [e_rr0 e1, e2]
    exact ⟨-1, sc, sm, rfl, rfl, h⟩
  · obtain ⟨sc', sm', f1, f2, h'⟩ := s_found h (x := 1) 1 (by omega) (by decide +kernel)
    rw [e_rr1 hr e1 a, f1, e2]
    refine ⟨-3, sc', sm', rfl, ?_, h'⟩
    simp only [b_s, z1, if_false, gd_i _ hr (show 6 < 2 ^ 31 by omega), nI_clamp (show r < 2 ^ 31 by omega), b, zge1, b_eta, f2]
  · rw [e_rr2 hr (by omega) e1 a, e2]
    simp only [b_s, z1, if_false, if_true, gd_i _ hr (show 6 < 2 ^ 31 by omega), nI_clamp (show r < 2 ^ 31 by omega), a, b, b_eta, if_y (nI_pos' (show n < 2 ^ 31 by omega))]
    by_cases hn0 : n = 0
    · subst hn0
      obtain ⟨sc', sm', f1, f2, h'⟩ := s_found h (x := 4) 4 (by omega) (by decide +kernel)
      simp only [nI_0, if_true]
      exact ⟨-3, sc', sm', f1, f2, h'⟩
    · have hz : ¬ nI n = 0 := nI_ne0 (by omega) (by omega)
      have hzl : nzl ((nI n).toInt64) = true := by
        rw [nI_l (by omega)]
        unfold nzl
        simp only [decide_eq_true_eq]
        intro q
        have := (pk_lEQ (a := n) (b := 0) (by omega) (by omega)).mp (q.trans (by decide +kernel))
        exact hn0 this
      simp only [if_neg hz]
      have l1 := iter_fold (body := fun v : Int64 × Int32 × St => l_X5_mean_32 (nI r) 0 v.1 v.2.1 v.2.2) (fun k => (msum (sc.1 (2 + r)) k, nI k, sc)) n (msum (sc.1 (2 + r)) n, nI n, sc) (by omega) (fun k hk => by
        dsimp only
        unfold l_X5_mean_32
        simp only [gd_i _ hr (show 6 < 2 ^ 31 by omega), nI_clamp (show r < 2 ^ 31 by omega), a, if_neg (nI_ge hk (show n < 2 ^ 31 by omega)), gd_i _ (show k < 40 by omega) (show 40 < 2 ^ 31 by omega), nI_clamp (show k < 2 ^ 31 by omega), lw_e, nI_1]
        rfl) (by
        dsimp only
        unfold l_X5_mean_32
        simp only [gd_i _ hr (show 6 < 2 ^ 31 by omega), nI_clamp (show r < 2 ^ 31 by omega), a, if_y (nI_le (Nat.le_refl n) (show n < 2 ^ 31 by omega))])
      have l2 := iter_fold (body := fun v : Int64 × Int32 × St => l_X6_mean_44 (nI r) v.1 v.2.1 v.2.2) (fun k => (msum (fun i => sm.1 3 (40 * r + i)) k, nI k, sm)) n (msum (fun i => sm.1 3 (40 * r + i)) n, nI n, sm) (by omega) (fun k hk => by
        dsimp only
        unfold l_X6_mean_44
        simp only [gd_i _ hr (show 6 < 2 ^ 31 by omega), nI_clamp (show r < 2 ^ 31 by omega), b, if_neg (nI_ge hk (show n < 2 ^ 31 by omega)), m_rowAt hr (show k < 40 by omega), b_s, lw_e, nI_1]
        rfl) (by
        dsimp only
        unfold l_X6_mean_44
        simp only [gd_i _ hr (show 6 < 2 ^ 31 by omega), nI_clamp (show r < 2 ^ 31 by omega), b, if_y (nI_le (Nat.le_refl n) (show n < 2 ^ 31 by omega))])
      have l1' : iter (fun v : Int64 × Int32 × St => l_X5_mean_32 (nI r) 0 v.1 v.2.1 v.2.2) fuel (0, 0, sc) = _ := l1
      have l2' : iter (fun v : Int64 × Int32 × St => l_X6_mean_44 (nI r) v.1 v.2.1 v.2.2) fuel (0, 0, sm) = _ := l2
      rw [l1', l2']
      have hs : msum (sc.1 (2 + r)) n = msum (fun i => sm.1 3 (40 * r + i)) n := msum_congr n c
      simp only [b_s, a, b, gd_t _ hzl, ls_e, hs]
      unfold f_X6_tells
      exact ⟨1, _, _, rfl, rfl, s_ask h _⟩
