/-! KEEP, ON -/
theorem ix6 (r i : Nat) : (6 : Int32) * nI r + nI i = nI (6 * r + i) := by rw [n6, pk_mul, nI_add]
theorem ix840 (r i : Nat) : (840 : Int32) * nI r + nI i = nI (840 * r + i) := by rw [show (840 : Int32) = nI 840 by decide +kernel, pk_mul, nI_add]
theorem m14 (r : Nat) : (14 : Int32) * nI r = nI (14 * r) := by rw [n14, pk_mul]
theorem e_takeT {a b T : Nat} {st : St} (hT : st.1 b 2 = nI T) (hT6 : T ≤ 60) (h1 : b ≠ a + 4) (h2 : b ≠ a + 8) (h3 : b + 8 ≠ a + 4) : ∃ s', f_X4_takeFrom a b st = some s' ∧ (∀ i, i < T → s'.1 (a + 4) i = st.1 (b + 4) i) ∧ (∀ i, i < T → s'.1 (a + 8) i = st.1 (b + 8) i) ∧ s'.1 a 2 = nI T ∧ (∀ k, k ≠ a → k ≠ a + 4 → k ≠ a + 8 → s'.1 k = st.1 k) ∧ s'.2 = st.2 := by
  have hg : cpg 0 0 (nI T) 60 60 = true := by
    unfold cpg
    simp only [Bool.and_eq_true, decide_eq_true_eq]
    rw [nI_clamp (show T < 2 ^ 31 by omega)]
    have z : (0 : Int32).toNatClampNeg = 0 := by decide
    rw [z]
    exact ⟨⟨⟨⟨by decide, by decide⟩, nI_pos' (by omega)⟩, by omega⟩, by omega⟩
  unfold f_X4_takeFrom
  rw [hT, gd_t _ hg, ls_e, sA_n h1, hT, gd_t _ hg, ls_e, ls_e, sA_n h2, sA_n h1, hT, sA_n h3, nI_clamp (show T < 2 ^ 31 by omega), show (0 : Int32).toNatClampNeg = 0 by decide]
  refine ⟨_, rfl, fun i hi => ?_, fun i hi => ?_, ?_, fun k k1 k2 k3 => ?_, rfl⟩
  · rw [sA_n (by omega), sA_n (by omega), sA_k]
    unfold va_cpy
    rw [if_pos ⟨by omega, by omega⟩, show 0 + (i - 0) = i by omega]
  · rw [sA_n (by omega), sA_k]
    unfold va_cpy
    rw [if_pos ⟨by omega, by omega⟩, show 0 + (i - 0) = i by omega]
  · rw [sA_k, pk_us]
  · rw [sA_n k1, sA_n k3, sA_n k2]
theorem s_keep {sc sm : St} (h : RR sc sm) (x : Int32) : Sim (f_X5_keep x sc) (f_X6_keep x sm) := by
  obtain ⟨N, hV, hN, ⟨T, hT⟩, hK⟩ := h.1
  have hN6 := hV.1
  have hT6 := hT.1
  unfold f_X5_keep f_X6_keep
  rcases (t_placeK x sc sm).symm with ⟨e1, e2⟩ | ⟨k, hk, rfl, e1, e2⟩
  · simp only [e1, e2, b_s, if_true]
    exact ⟨-1, sc, sm, rfl, rfl, h⟩
  simp only [e1, e2, b_s, z1, if_false, hV.2.1, hV.2.2.1]
  by_cases q : nI N = 0
  · rw [if_pos q, if_pos q]
    exact ⟨-4, sc, sm, rfl, rfl, h⟩
  simp only [if_neg q, gd_i _ hk (show 3 < 2 ^ 31 by omega), nI_clamp (show k < 2 ^ 31 by omega), ls_e]
  rw [sA_n (show (0 : Nat) ≠ 16 by omega), sA_n (show (17 : Nat) ≠ 16 by omega), hT.2.2.1]
  -- the class
  unfold f_X0_takeFrom
  obtain ⟨g, a1, a2, a3⟩ := cp_loop (body := fun v : Int32 × St => l_X0_takeFrom_2 (24 + k) v.1 v.2) (sm := sc) (24 + k + 3) N (by omega) (fun j => j) (fun j => sc.1 (17 + j) 4) (fun i j _ _ h => h) (fun j g hj => by
    dsimp only
    unfold l_X0_takeFrom_2
    rw [sA_n (show (15 : Nat) ≠ 24 + k + 3 by omega), hV.2.1, if_neg (nI_ge hj (by omega)), gd_i _ (show j < 6 by omega) (by omega), gd_i _ (show j < 6 by omega) (by omega), ls_e, nI_clamp (show j < 2 ^ 31 by omega), nI_1, sA_sA, sA_k, sA_n (show 17 + j ≠ 24 + k + 3 by omega)]) (fun g => by
    dsimp only
    unfold l_X0_takeFrom_2
    rw [sA_n (show (15 : Nat) ≠ 24 + k + 3 by omega), hV.2.1, if_pos (nI_le (Nat.le_refl _) (by omega))])
  rw [a1, b_s]
  dsimp only
  obtain ⟨s1, b1, b2, b3, b4, b5, b6⟩ := e_takeT (a := 24 + k + 6) (b := 33) (T := T) (st := sA sc (24 + k + 3) g) (by rw [sA_n (by omega)]; exact hT.2.1) hT6 (by omega) (by omega) (by omega)
  rw [b1, b_s, ls_e, b_s, sA_n (show (33 : Nat) ≠ 24 + k by omega), b5 33 (by omega) (by omega) (by omega), sA_n (show (33 : Nat) ≠ 24 + k + 3 by omega), hT.2.1]
  generalize hsc : sA s1 (24 + k) (upd (s1.1 (24 + k)) 2 1) = sc'
  have o : ∀ j, j ≠ 24 + k → j ≠ 27 + k → j ≠ 30 + k → j ≠ 34 + k → j ≠ 38 + k → sc'.1 j = sc.1 j := fun j h1 h2 h3 h4 h5 => by
    rw [← hsc, sA_n h1, b5 j (by omega) (by omega) (by omega), sA_n (by omega)]
  have o24 : sc'.1 (24 + k) 2 = 1 := by rw [← hsc, sA_k, pk_us]
  have o27 : ∀ p, p < N → sc'.1 (27 + k) p = sc.1 (17 + p) 4 := fun p hp => by
    rw [← hsc, sA_n (by omega), b5 (27 + k) (by omega) (by omega) (by omega), show 27 + k = 24 + k + 3 by omega, sA_k, a2 p hp]
  have o30 : sc'.1 (30 + k) 2 = nI T := by rw [← hsc, sA_n (by omega), show 30 + k = 24 + k + 6 by omega, b4]
  have o34 : ∀ i, i < T → sc'.1 (34 + k) i = sc.1 37 i := fun i hi => by
    rw [← hsc, sA_n (by omega), show 34 + k = 24 + k + 6 + 4 by omega, b2 i hi, sA_n (by omega)]
  have o38 : ∀ i, i < T → sc'.1 (38 + k) i = sc.1 41 i := fun i hi => by
    rw [← hsc, sA_n (by omega), show 38 + k = 24 + k + 6 + 8 by omega, b3 i hi, sA_n (by omega)]
  have oL : sc'.2 = sc.2 := by rw [← hsc]; exact b6
  -- the reference
  generalize hsm0 : sA (sA sm 16 (upd (sm.1 16) k 1)) 17 (upd (sm.1 17) k (nI T)) = s0
  have p0 : ∀ j, j ≠ 16 → j ≠ 17 → s0.1 j = sm.1 j := fun j h1 h2 => by rw [← hsm0, sA_n h2, sA_n h1]
  obtain ⟨g1, c1, c2, c3⟩ := cp_loop (body := fun v : Int32 × St => l_X6_keep_40 (nI k) v.1 v.2) (sm := s0) 18 6 (by omega) (fun j => 6 * k + j) (fun j => sm.1 11 j) (fun i j _ _ h => by omega) (fun j g hj => by
    dsimp only
    unfold l_X6_keep_40
    rw [ix6, n6, if_neg (nI_ge hj (by omega)), gd_i _ hj (by omega), gd_i _ (show 6 * k + j < 18 by omega) (by omega), ls_e, nI_clamp (show 6 * k + j < 2 ^ 31 by omega), nI_clamp (show j < 2 ^ 31 by omega), nI_1, sA_sA, sA_k, sA_n (show (11 : Nat) ≠ 18 by omega), p0 11 (by omega) (by omega)]) (fun g => by
    dsimp only
    unfold l_X6_keep_40
    rw [n6, if_pos (nI_le (Nat.le_refl _) (by omega))])
  rw [c1, b_s]
  dsimp only
  obtain ⟨g2, d1, d2, d3⟩ := cp_loop (body := fun v : Int32 × St => l_X6_keep_71 (nI k) v.1 v.2) (sm := sA s0 18 g1) 19 14 (by omega) (fun j => 14 * k + j) (fun j => sm.1 14 j) (fun i j _ _ h => by omega) (fun j g hj => by
    dsimp only
    unfold l_X6_keep_71
    rw [ix14, n14, if_neg (nI_ge hj (by omega)), gd_i _ hj (by omega), gd_i _ (show 14 * k + j < 42 by omega) (by omega), ls_e, nI_clamp (show 14 * k + j < 2 ^ 31 by omega), nI_clamp (show j < 2 ^ 31 by omega), nI_1, sA_sA, sA_k, sA_n (show (14 : Nat) ≠ 19 by omega), sA_n (show (14 : Nat) ≠ 18 by omega), p0 14 (by omega) (by omega)]) (fun g => by
    dsimp only
    unfold l_X6_keep_71
    rw [n14, if_pos (nI_le (Nat.le_refl _) (by omega))])
  rw [d1, b_s]
  dsimp only
  obtain ⟨g3, f1, f2, f3⟩ := cp_loop (body := fun v : Int32 × St => l_X6_keep_102 (nI k) v.1 v.2) (sm := sA (sA s0 18 g1) 19 g2) 20 (14 * T) (by omega) (fun j => 840 * k + j) (fun j => sm.1 15 j) (fun i j _ _ h => by omega) (fun j g hj => by
    dsimp only
    unfold l_X6_keep_102
    rw [sA_n (show (0 : Nat) ≠ 20 by omega), sA_n (show (0 : Nat) ≠ 19 by omega), sA_n (show (0 : Nat) ≠ 18 by omega), p0 0 (by omega) (by omega), hT.2.2.1, m14, ix840, if_neg (nI_ge hj (by omega)), gd_i _ (show j < 840 by omega) (by omega), gd_i _ (show 840 * k + j < 2520 by omega) (by omega), ls_e, nI_clamp (show 840 * k + j < 2 ^ 31 by omega), nI_clamp (show j < 2 ^ 31 by omega), nI_1, sA_sA, sA_k, sA_n (show (15 : Nat) ≠ 20 by omega), sA_n (show (15 : Nat) ≠ 19 by omega), sA_n (show (15 : Nat) ≠ 18 by omega), p0 15 (by omega) (by omega)]) (fun g => by
    dsimp only
    unfold l_X6_keep_102
    rw [sA_n (show (0 : Nat) ≠ 20 by omega), sA_n (show (0 : Nat) ≠ 19 by omega), sA_n (show (0 : Nat) ≠ 18 by omega), p0 0 (by omega) (by omega), hT.2.2.1, m14, if_pos (nI_le (Nat.le_refl _) (by omega))])
  rw [f1, b_s]
  dsimp only
  rw [sA_n (show (0 : Nat) ≠ 20 by omega), sA_n (show (0 : Nat) ≠ 19 by omega), sA_n (show (0 : Nat) ≠ 18 by omega), p0 0 (by omega) (by omega), hT.2.2.1]
  generalize hsm : sA (sA (sA s0 18 g1) 19 g2) 20 g3 = sm'
  have om : ∀ j, j ≠ 16 → j ≠ 17 → j ≠ 18 → j ≠ 19 → j ≠ 20 → sm'.1 j = sm.1 j := fun j h1 h2 h3 h4 h5 => by
    rw [← hsm, sA_n h5, sA_n h4, sA_n h3, p0 j h1 h2]
  have o16 : sm'.1 16 = upd (sm.1 16) k 1 := by rw [← hsm, sA_n (by omega), sA_n (by omega), sA_n (by omega), ← hsm0, sA_n (by omega), sA_k]
  have o17 : sm'.1 17 = upd (sm.1 17) k (nI T) := by rw [← hsm, sA_n (by omega), sA_n (by omega), sA_n (by omega), ← hsm0, sA_k]
  have o18 : sm'.1 18 = g1 := by rw [← hsm, sA_n (by omega), sA_n (by omega), sA_k]
  have o19 : sm'.1 19 = g2 := by rw [← hsm, sA_n (by omega), sA_k]
  have o20 : sm'.1 20 = g3 := by rw [← hsm, sA_k]
  have om2 : sm'.2 = sm.2 := by rw [← hsm, ← hsm0]; rfl
  have c3' : ∀ q, (∀ j, j < 6 → q ≠ 6 * k + j) → g1 q = sm.1 18 q := fun q hq => by rw [c3 q hq, p0 18 (by omega) (by omega)]
  have d3' : ∀ q, (∀ j, j < 14 → q ≠ 14 * k + j) → g2 q = sm.1 19 q := fun q hq => by rw [d3 q hq, sA_n (by omega), p0 19 (by omega) (by omega)]
  have f3' : ∀ q, (∀ j, j < 14 * T → q ≠ 840 * k + j) → g3 q = sm.1 20 q := fun q hq => by rw [f3 q hq, sA_n (by omega), sA_n (by omega), p0 20 (by omega) (by omega)]
  refine ⟨nI T, sc', sm', rfl, rfl, ⟨N, ?_, ?_, ⟨T, ?_⟩, fun l hl => ?_⟩, RO_congr (fun j h1 h2 => o j (by omega) (by omega) (by omega) (by omega) (by omega)) (om 2 (by omega) (by omega) (by omega) (by omega) (by omega)) (om 3 (by omega) (by omega) (by omega) (by omega) (by omega)) h.2.1, RX_congr (fun j h1 h2 => o j (by omega) (by omega) (by omega) (by omega) (by omega)) (om 5 (by omega) (by omega) (by omega) (by omega) (by omega)) (om 6 (by omega) (by omega) (by omega) (by omega) (by omega)) h.2.2.1, ?_⟩
  · refine ⟨hN6, by rw [o 15 (by omega) (by omega) (by omega) (by omega) (by omega)]; exact hV.2.1, by rw [om 0 (by omega) (by omega) (by omega) (by omega) (by omega)]; exact hV.2.2.1, fun p hp => ?_⟩
    obtain ⟨x1, x2⟩ := hV.2.2.2 p hp
    rw [om 8 (by omega) (by omega) (by omega) (by omega) (by omega), om 9 (by omega) (by omega) (by omega) (by omega) (by omega), om 12 (by omega) (by omega) (by omega) (by omega) (by omega)]
    exact ⟨fun j hj => by rw [om (7 + j) (by omega) (by omega) (by omega) (by omega) (by omega), o (17 + p) (by omega) (by omega) (by omega) (by omega) (by omega)]; exact x1 j hj, x2⟩
  · refine ⟨fun p hp => ?_, ?_, ?_⟩
    · rw [om 14 (by omega) (by omega) (by omega) (by omega) (by omega), o (17 + p) (by omega) (by omega) (by omega) (by omega) (by omega)]; exact hN.1 p hp
    · rw [om 14 (by omega) (by omega) (by omega) (by omega) (by omega), o 15 (by omega) (by omega) (by omega) (by omega) (by omega)]; exact hN.2.1
    · rw [om 14 (by omega) (by omega) (by omega) (by omega) (by omega), o 15 (by omega) (by omega) (by omega) (by omega) (by omega)]; exact hN.2.2
  · unfold RT at hT ⊢
    rw [o 33 (by omega) (by omega) (by omega) (by omega) (by omega), o 37 (by omega) (by omega) (by omega) (by omega) (by omega), o 41 (by omega) (by omega) (by omega) (by omega) (by omega), om 0 (by omega) (by omega) (by omega) (by omega) (by omega), om 14 (by omega) (by omega) (by omega) (by omega) (by omega), om 15 (by omega) (by omega) (by omega) (by omega) (by omega), om 7 (by omega) (by omega) (by omega) (by omega) (by omega), om 10 (by omega) (by omega) (by omega) (by omega) (by omega), om 11 (by omega) (by omega) (by omega) (by omega) (by omega)]
    exact hT
  · by_cases el : l = k
    · subst el
      refine ⟨by rw [o24, o16, pk_us], Or.inr ⟨by rw [o16, pk_us], T, ?_⟩⟩
      have hcg : ∀ i, i ≤ T → nowN (sm'.1 7) (sm'.1 10) (fun p => sm'.1 18 (6 * l + p)) (sc'.1 (34 + l)) (sc'.1 (38 + l)) i = nowN (sm.1 7) (sm.1 10) (sm.1 11) (sc.1 37) (sc.1 41) i := fun i hi => by
        rw [om 7 (by omega) (by omega) (by omega) (by omega) (by omega), om 10 (by omega) (by omega) (by omega) (by omega) (by omega), o18]
        exact (nowN_congr hN6 (fun p hp => ⟨rfl, rfl, (c2 p (by omega)).symm⟩) i (fun j hj => ⟨hT.2.2.2.1 j (by omega), (o34 j (by omega)).symm, (o38 j (by omega)).symm⟩)).symm
      refine ⟨hT6, o30, by rw [o17, pk_us], fun p hp => ?_, fun i hi => ?_, fun j hj => ?_, fun i hi j hj => ?_⟩
      · rw [o27 p hp, o18, c2 p (by omega)]; exact ((hV.2.2.2 p hp).1 4 (by omega))
      · rw [o34 i hi]; exact hT.2.2.2.1 i hi
      · rw [hcg T (by omega), o19, d2 j hj]; exact hT.2.2.2.2.1 j hj
      · rw [hcg i (by omega), o20, f2 (14 * i + j) (by omega)]; exact hT.2.2.2.2.2 i hi j hj
    · have hk0 := hK l hl
      have x18 : ∀ p, p < 6 → sm'.1 18 (6 * l + p) = sm.1 18 (6 * l + p) := fun p hp => by rw [o18, c3' _ (fun j hj => by omega)]
      refine ⟨by rw [o (24 + l) (by omega) (by omega) (by omega) (by omega) (by omega), o16, pk_un el]; exact hk0.1, ?_⟩
      rw [o16, pk_un el]
      refine hk0.2.imp id (fun ⟨y0, T', y1, y2, y3, y4, y5, y6, y7⟩ => ⟨y0, T', ?_⟩)
      have hcg : ∀ i, i ≤ T' → nowN (sm'.1 7) (sm'.1 10) (fun p => sm'.1 18 (6 * l + p)) (sc'.1 (34 + l)) (sc'.1 (38 + l)) i = nowN (sm.1 7) (sm.1 10) (fun p => sm.1 18 (6 * l + p)) (sc.1 (34 + l)) (sc.1 (38 + l)) i := fun i hi => by
        rw [om 7 (by omega) (by omega) (by omega) (by omega) (by omega), om 10 (by omega) (by omega) (by omega) (by omega) (by omega), o (34 + l) (by omega) (by omega) (by omega) (by omega) (by omega), o (38 + l) (by omega) (by omega) (by omega) (by omega) (by omega)]
        exact (nowN_congr hN6 (fun p hp => ⟨rfl, rfl, (x18 p (by omega)).symm⟩) i (fun j hj => ⟨y5 j (by omega), rfl, rfl⟩)).symm
      refine ⟨y1, by rw [o (30 + l) (by omega) (by omega) (by omega) (by omega) (by omega)]; exact y2, by rw [o17, pk_un el]; exact y3, fun p hp => ?_, fun i hi => ?_, fun j hj => ?_, fun i hi j hj => ?_⟩
      · rw [o (27 + l) (by omega) (by omega) (by omega) (by omega) (by omega), x18 p (by omega)]; exact y4 p hp
      · rw [o (34 + l) (by omega) (by omega) (by omega) (by omega) (by omega)]; exact y5 i hi
      · rw [hcg T' (by omega), o19, d3' _ (fun q hq => by omega)]; exact y6 j hj
      · rw [hcg i (by omega), o20, f3' _ (fun q hq => by omega)]; exact y7 i hi j hj
  · obtain ⟨a, b, c, d, e⟩ := h.2.2.2
    unfold RF
    rw [o 0 (by omega) (by omega) (by omega) (by omega) (by omega), o 43 (by omega) (by omega) (by omega) (by omega) (by omega), om 0 (by omega) (by omega) (by omega) (by omega) (by omega), om 1 (by omega) (by omega) (by omega) (by omega) (by omega), om2, oL]
    exact ⟨a, b, c, d, e⟩
theorem s_on {sc sm : St} (h : RR sc sm) (x : Int32) : Sim (f_X5_on x sc) (f_X6_on x sm) := by
  obtain ⟨N, hV, hN, -, hK⟩ := h.1
  have hN6 := hV.1
  unfold f_X5_on f_X6_on
  rcases (t_placeK x sc sm).symm with ⟨e1, e2⟩ | ⟨k, hk, rfl, e1, e2⟩
  · simp only [e1, e2, b_s, if_true]
    exact ⟨-1, sc, sm, rfl, rfl, h⟩
  obtain ⟨k1, k2⟩ := hK k hk
  simp only [e1, e2, b_s, z1, if_false, gd_i _ hk (show 3 < 2 ^ 31 by omega), nI_clamp (show k < 2 ^ 31 by omega), k1]
  by_cases q : sm.1 16 k = 0
  · rw [if_pos q, if_pos q]
    obtain ⟨s1, s2, f1, f2, f3⟩ := s_found h 1 (by omega) (x := 1) (by decide +kernel)
    rw [f1, f2]
    exact ⟨-3, s1, s2, rfl, rfl, f3⟩
  rw [if_neg q, if_neg q, ls_e]
  rcases k2 with k2 | ⟨-, T, y1, y2, y3, y4, y5, y6, y7⟩
  · exact absurd k2 q
  rw [y3]
  -- the class
  unfold f_X0_giveTo
  obtain ⟨v, a0, s1, rfl, a1, a2, a3⟩ := iter_inv (body := fun v : Int32 × St => l_X0_giveTo_2 (24 + k) v.1 v.2) (Out := fun v => ∃ s, v = (nI N, s) ∧ (∀ j, ¬ (17 ≤ j ∧ j < 23) → s.1 j = sc.1 j) ∧ (∀ p, p < N → s.1 (17 + p) = upd (sc.1 (17 + p)) 4 (sc.1 (27 + k) p)) ∧ s.2 = sc.2) (fun n v => ∃ s, v = (nI n, s) ∧ (∀ j, ¬ (17 ≤ j ∧ j < 23) → s.1 j = sc.1 j) ∧ (∀ p, p < n → s.1 (17 + p) = upd (sc.1 (17 + p)) 4 (sc.1 (27 + k) p)) ∧ (∀ p, n ≤ p → s.1 (17 + p) = sc.1 (17 + p)) ∧ s.2 = sc.2) N (by omega) (fun n v hn hS => by
    obtain ⟨s, rfl, b1, b2, b3, b4⟩ := hS
    dsimp only
    unfold l_X0_giveTo_2
    rw [b1 15 (by omega), hV.2.1]
    by_cases hnN : n < N
    · rw [if_neg (nI_ge hnN (by omega)), gd_i _ (show n < 6 by omega) (by omega), gd_i _ (show n < 6 by omega) (by omega), ls_e, nI_clamp (show n < 2 ^ 31 by omega), nI_1, b1 (24 + k + 3) (by omega), b3 n (by omega), show 24 + k + 3 = 27 + k by omega]
      refine Or.inl ⟨hnN, _, rfl, _, rfl, fun j hj => by rw [sA_n (by omega)]; exact b1 j hj, fun p hp => ?_, fun p hp => by rw [sA_n (by omega)]; exact b3 p (by omega), b4⟩
      by_cases e : p = n
      · subst e; rw [sA_k]
      · rw [sA_n (by omega)]; exact b2 p (by omega)
    · have : n = N := by omega
      subst this
      rw [if_pos (nI_le (Nat.le_refl _) (by omega))]
      exact Or.inr ⟨_, rfl, s, rfl, b1, b2, b4⟩) (v := (0, sc)) ⟨sc, rfl, fun _ _ => rfl, fun p hp => by omega, fun _ _ => rfl, rfl⟩
  rw [a0, b_s]
  dsimp only
  obtain ⟨s2, b1, b2, b3, b4, b5, b6⟩ := e_takeT (a := 33) (b := 24 + k + 6) (T := T) (st := s1) (by rw [a1 (24 + k + 6) (by omega), show 24 + k + 6 = 30 + k by omega]; exact y2) y1 (by omega) (by omega) (by omega)
  have b2' : ∀ i, i < T → s2.1 37 i = sc.1 (34 + k) i := fun i hi => by rw [b2 i hi, a1 _ (by omega), show 24 + k + 6 + 4 = 34 + k by omega]
  have b3' : ∀ i, i < T → s2.1 41 i = sc.1 (38 + k) i := fun i hi => by rw [b3 i hi, a1 _ (by omega), show 24 + k + 6 + 8 = 38 + k by omega]
  have b5' : ∀ j, ¬ (17 ≤ j ∧ j < 23) → j ≠ 33 → j ≠ 37 → j ≠ 41 → s2.1 j = sc.1 j := fun j h1 h2 h3 h4 => by rw [b5 j h2 (by omega) (by omega), a1 j h1]
  have b7 : ∀ p, p < N → s2.1 (17 + p) = upd (sc.1 (17 + p)) 4 (sc.1 (27 + k) p) := fun p hp => by rw [b5 (17 + p) (by omega) (by omega) (by omega), a2 p hp]
  have hF : CF N s2 (sm.1 7) (sm.1 10) (fun p => sm.1 18 (6 * k + p)) := by
    refine ⟨hN6, by rw [b5' 15 (by omega) (by omega) (by omega) (by omega)]; exact hV.2.1, fun p hp => ?_⟩
    have d := (hV.2.2.2 p hp).1
    rw [b7 p hp, pk_un (by omega), pk_un (by omega), pk_us]
    exact ⟨d 0 (by omega), d 3 (by omega), y4 p hp⟩
  obtain ⟨sc', g1, g2, g3⟩ := e_go hF b4 y1 (Nat.le_refl T) (fun i hi => by rw [b2' i hi]; exact y5 i hi)
  rw [b1, b_s, show 24 + k + 6 = 30 + k by omega, b5' (30 + k) (by omega) (by omega) (by omega) (by omega), y2, g1, b_s, b_s]
  have o33 : sc'.1 33 2 = nI T := by rw [g3.1 33 (by omega) (by omega), sA_k, pk_us]
  have o : ∀ j, j ≠ 15 → ¬ (17 ≤ j ∧ j < 23) → j ≠ 33 → j ≠ 37 → j ≠ 41 → sc'.1 j = sc.1 j := fun j h1 h2 h3 h4 h5 => by rw [g3.1 j h1 h2, sA_n h3, b5' j h2 h3 h4 h5]
  have o37 : ∀ i, i < T → sc'.1 37 i = sc.1 (34 + k) i := fun i hi => by rw [g3.1 37 (by omega) (by omega), sA_n (by omega), b2' i hi]
  have o41 : ∀ i, i < T → sc'.1 41 i = sc.1 (38 + k) i := fun i hi => by rw [g3.1 41 (by omega) (by omega), sA_n (by omega), b3' i hi]
  have o17 : ∀ p j, p < N → j < 6 → sc'.1 (17 + p) j = upd (sc.1 (17 + p)) 4 (sm.1 18 (6 * k + p)) j := fun p j hp hj => by rw [g3.2.2.1 p j (by omega) hj, sA_n (by omega), b7 p hp, y4 p hp]
  have oL : sc'.2 = sc.2 := by rw [g3.2.2.2]; exact b6.trans a3
  rw [o33]
  -- the reference
  generalize hsm0 : sA sm 0 (upd (sm.1 0) 21 (nI T)) = s0
  have p0 : ∀ j, j ≠ 0 → s0.1 j = sm.1 j := fun j h1 => by rw [← hsm0, sA_n h1]
  have p21 : s0.1 0 21 = nI T := by rw [← hsm0, sA_k, pk_us]
  obtain ⟨f1, c1, c2, -⟩ := cp_loop (body := fun v : Int32 × St => l_X6_on_38 (nI k) v.1 v.2) (sm := s0) 11 6 (by omega) (fun j => j) (fun j => sm.1 18 (6 * k + j)) (fun i j _ _ h => h) (fun j g hj => by
    dsimp only
    unfold l_X6_on_38
    rw [ix6, n6, if_neg (nI_ge hj (by omega)), gd_i _ (show 6 * k + j < 18 by omega) (by omega), gd_i _ hj (by omega), ls_e, nI_clamp (show 6 * k + j < 2 ^ 31 by omega), nI_clamp (show j < 2 ^ 31 by omega), nI_1, sA_sA, sA_k, sA_n (show (18 : Nat) ≠ 11 by omega), p0 18 (by omega)]) (fun g => by
    dsimp only
    unfold l_X6_on_38
    rw [n6, if_pos (nI_le (Nat.le_refl _) (by omega))])
  rw [c1, b_s]
  dsimp only
  obtain ⟨f2, d1, d2, -⟩ := cp_loop (body := fun v : Int32 × St => l_X6_on_69 (nI k) v.1 v.2) (sm := sA s0 11 f1) 14 14 (by omega) (fun j => j) (fun j => sm.1 19 (14 * k + j)) (fun i j _ _ h => h) (fun j g hj => by
    dsimp only
    unfold l_X6_on_69
    rw [ix14, n14, if_neg (nI_ge hj (by omega)), gd_i _ (show 14 * k + j < 42 by omega) (by omega), gd_i _ hj (by omega), ls_e, nI_clamp (show 14 * k + j < 2 ^ 31 by omega), nI_clamp (show j < 2 ^ 31 by omega), nI_1, sA_sA, sA_k, sA_n (show (19 : Nat) ≠ 14 by omega), sA_n (show (19 : Nat) ≠ 11 by omega), p0 19 (by omega)]) (fun g => by
    dsimp only
    unfold l_X6_on_69
    rw [n14, if_pos (nI_le (Nat.le_refl _) (by omega))])
  rw [d1, b_s]
  dsimp only
  obtain ⟨f3, e1, e2, -⟩ := cp_loop (body := fun v : Int32 × St => l_X6_on_100 (nI k) v.1 v.2) (sm := sA (sA s0 11 f1) 14 f2) 15 (14 * T) (by omega) (fun j => j) (fun j => sm.1 20 (840 * k + j)) (fun i j _ _ h => h) (fun j g hj => by
    dsimp only
    unfold l_X6_on_100
    rw [sA_n (show (0 : Nat) ≠ 15 by omega), sA_n (show (0 : Nat) ≠ 14 by omega), sA_n (show (0 : Nat) ≠ 11 by omega), p21, m14, ix840, if_neg (nI_ge hj (by omega)), gd_i _ (show 840 * k + j < 2520 by omega) (by omega), gd_i _ (show j < 840 by omega) (by omega), ls_e, nI_clamp (show 840 * k + j < 2 ^ 31 by omega), nI_clamp (show j < 2 ^ 31 by omega), nI_1, sA_sA, sA_k, sA_n (show (20 : Nat) ≠ 15 by omega), sA_n (show (20 : Nat) ≠ 14 by omega), sA_n (show (20 : Nat) ≠ 11 by omega), p0 20 (by omega)]) (fun g => by
    dsimp only
    unfold l_X6_on_100
    rw [sA_n (show (0 : Nat) ≠ 15 by omega), sA_n (show (0 : Nat) ≠ 14 by omega), sA_n (show (0 : Nat) ≠ 11 by omega), p21, m14, if_pos (nI_le (Nat.le_refl _) (by omega))])
  rw [e1, b_s]
  dsimp only
  rw [sA_n (show (0 : Nat) ≠ 15 by omega), sA_n (show (0 : Nat) ≠ 14 by omega), sA_n (show (0 : Nat) ≠ 11 by omega), p21]
  generalize hsm : sA (sA (sA s0 11 f1) 14 f2) 15 f3 = sm'
  have om : ∀ j, j ≠ 0 → j ≠ 11 → j ≠ 14 → j ≠ 15 → sm'.1 j = sm.1 j := fun j h1 h2 h3 h4 => by rw [← hsm, sA_n h4, sA_n h3, sA_n h2, p0 j h1]
  have om0 : sm'.1 0 = upd (sm.1 0) 21 (nI T) := by rw [← hsm, sA_n (by omega), sA_n (by omega), sA_n (by omega), ← hsm0, sA_k]
  have om11 : sm'.1 11 = f1 := by rw [← hsm, sA_n (by omega), sA_n (by omega), sA_k]
  have om14 : sm'.1 14 = f2 := by rw [← hsm, sA_n (by omega), sA_k]
  have om15 : sm'.1 15 = f3 := by rw [← hsm, sA_k]
  have om2 : sm'.2 = sm.2 := by rw [← hsm, ← hsm0]; rfl
  have hcg : ∀ i, i ≤ T → nowN (sm'.1 7) (sm'.1 10) (sm'.1 11) (sc'.1 37) (sc'.1 41) i = nowN (sm.1 7) (sm.1 10) (fun p => sm.1 18 (6 * k + p)) (sc.1 (34 + k)) (sc.1 (38 + k)) i := fun i hi => by
    rw [om 7 (by omega) (by omega) (by omega) (by omega), om 10 (by omega) (by omega) (by omega) (by omega), om11]
    exact (nowN_congr hN6 (fun p hp => ⟨rfl, rfl, (c2 p (by omega)).symm⟩) i (fun j hj => ⟨y5 j (by omega), (o37 j (by omega)).symm, (o41 j (by omega)).symm⟩)).symm
  have hcg2 : nowN (sm.1 7) (sm.1 10) (fun p => sm.1 18 (6 * k + p)) (s2.1 37) (s2.1 41) T = nowN (sm.1 7) (sm.1 10) (fun p => sm.1 18 (6 * k + p)) (sc.1 (34 + k)) (sc.1 (38 + k)) T :=
    (nowN_congr hN6 (fun p hp => ⟨rfl, rfl, rfl⟩) T (fun j hj => ⟨y5 j (by omega), (b2' j (by omega)).symm, (b3' j (by omega)).symm⟩)).symm
  rw [hcg2] at g2
  refine ⟨nI T, sc', sm', rfl, rfl, ⟨N, ?_, ?_, ⟨T, ?_⟩, fun l hl => ?_⟩, RO_congr (fun j h1 h2 => o j (by omega) (by omega) (by omega) (by omega) (by omega)) (om 2 (by omega) (by omega) (by omega) (by omega)) (om 3 (by omega) (by omega) (by omega) (by omega)) h.2.1, RX_congr (fun j h1 h2 => o j (by omega) (by omega) (by omega) (by omega) (by omega)) (om 5 (by omega) (by omega) (by omega) (by omega)) (om 6 (by omega) (by omega) (by omega) (by omega)) h.2.2.1, ?_⟩
  · refine ⟨hN6, by rw [g3.2.1, sA_n (by omega), b5' 15 (by omega) (by omega) (by omega) (by omega)]; exact hV.2.1, by rw [om0, pk_un (by omega)]; exact hV.2.2.1, fun p hp => ?_⟩
    obtain ⟨x1, x2⟩ := hV.2.2.2 p hp
    rw [om 8 (by omega) (by omega) (by omega) (by omega), om 9 (by omega) (by omega) (by omega) (by omega), om 12 (by omega) (by omega) (by omega) (by omega)]
    refine ⟨fun j hj => ?_, x2⟩
    rw [o17 p j hp hj]
    by_cases e4 : j = 4
    · subst e4
      rw [pk_us]
      show _ = sm'.1 11 p
      rw [om11, c2 p (by omega)]
    · rw [pk_un e4, om (7 + j) (by omega) (by omega) (by omega) (by omega)]
      exact x1 j hj
  · refine ⟨fun p hp => ?_, ?_, ?_⟩
    · rw [om14, d2 p (by omega), d2 (6 + p) (by omega), y6 p (by omega), y6 (6 + p) (by omega)]; exact g2.1 p hp
    · rw [om14, d2 12 (by omega), y6 12 (by omega)]; exact g2.2.1
    · rw [om14, d2 13 (by omega), y6 13 (by omega)]; exact g2.2.2
  · refine ⟨y1, o33, by rw [om0, pk_us], fun i hi => by rw [o37 i hi]; exact y5 i hi, fun j hj => ?_, fun i hi j hj => ?_⟩
    · rw [hcg T (by omega), om14, d2 j hj]; exact y6 j hj
    · rw [hcg i (by omega), om15, e2 (14 * i + j) (by omega)]; exact y7 i hi j hj
  · have := hK l hl
    unfold RK RK1 at this ⊢
    rw [o (24 + l) (by omega) (by omega) (by omega) (by omega) (by omega), o (30 + l) (by omega) (by omega) (by omega) (by omega) (by omega), o (27 + l) (by omega) (by omega) (by omega) (by omega) (by omega), o (34 + l) (by omega) (by omega) (by omega) (by omega) (by omega), o (38 + l) (by omega) (by omega) (by omega) (by omega) (by omega), om 16 (by omega) (by omega) (by omega) (by omega), om 17 (by omega) (by omega) (by omega) (by omega), om 18 (by omega) (by omega) (by omega) (by omega), om 19 (by omega) (by omega) (by omega) (by omega), om 20 (by omega) (by omega) (by omega) (by omega), om 7 (by omega) (by omega) (by omega) (by omega), om 10 (by omega) (by omega) (by omega) (by omega)]
    exact this
  · obtain ⟨a, b, c, d, e⟩ := h.2.2.2
    unfold RF
    rw [o 0 (by omega) (by omega) (by omega) (by omega) (by omega), o 43 (by omega) (by omega) (by omega) (by omega) (by omega), om0, pk_un (by omega), pk_un (by omega), om 1 (by omega) (by omega) (by omega) (by omega), om2, oL]
    exact ⟨a, b, c, d, e⟩
