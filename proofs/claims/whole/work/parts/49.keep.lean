/-! LOTS, UNDO, KEEP, ON -/
theorem cmp_lt {a b : Nat} (ha : a < 2 ^ 63) (hb : b < 2 ^ 63) : (lg_cmp (lN a) (lN b) < 0) ↔ a < b := by
  unfold lg_cmp
  rcases Nat.lt_trichotomy b a with q | q | q
  · rw [if_pos ((pk_lLT hb ha).mpr q)]
    exact ⟨fun z => absurd z (by decide), fun z => by omega⟩
  · rw [if_neg (fun z => absurd ((pk_lLT hb ha).mp z) (by omega)), if_pos (by rw [q])]
    exact ⟨fun z => absurd z (by decide), fun z => by omega⟩
  · rw [if_neg (fun z => absurd ((pk_lLT hb ha).mp z) (by omega)), if_neg (fun z => absurd ((pk_lEQ ha hb).mp z) (by omega))]
    exact ⟨fun _ => q, fun _ => by decide⟩
theorem s_lots {sc sm : St} (h : RR sc sm) (x y : Int32) : Sim (f_X5_lots x y sc) (f_X6_lots x y sm) := by
  unfold f_X5_lots f_X6_lots
  rw [m_in]
  by_cases a1 : x < 1
  · simp only [if_pos a1, b_s, if_true]
    exact ⟨-1, sc, sm, rfl, rfl, h⟩
  by_cases a2 : (20 : Int32) < x
  · simp only [if_neg a1, if_pos a2, b_s, if_true]
    exact ⟨-1, sc, sm, rfl, rfl, h⟩
  simp only [if_neg a1, if_neg a2, b_s, z1, if_false, m_in]
  by_cases b1 : y < 1
  · simp only [if_pos b1, b_s, if_true]
    exact ⟨-1, sc, sm, rfl, rfl, h⟩
  simp only [if_neg b1]
  have y0 : ¬ y < 0 := fun z => b1 (by
    have := Int32.lt_iff_toInt_lt.mp z
    rw [Int32.lt_iff_toInt_lt]
    have e0 : (0 : Int32).toInt = 0 := by decide
    have e1 : (1 : Int32).toInt = 1 := by decide
    omega)
  obtain ⟨n, hn, rfl⟩ := nI_of y0
  have eM : (2147483646 : Int32) = nI 2147483646 := by decide +kernel
  have eL : (2147483647 : Int64) = lN 2147483647 := by decide +kernel
  by_cases b2 : n < 2147483647
  case neg =>
    rw [if_neg (show ¬ lg_cmp (nI n).toInt64 2147483647 < 0 from fun z => by
      rw [nI_l hn, eL, cmp_lt (by omega) (by omega)] at z; omega), eM, if_pos (nI_lt (by omega) hn)]
    simp only [b_s, if_true]
    exact ⟨-1, sc, sm, rfl, rfl, h⟩
  rw [if_pos (show lg_cmp (nI n).toInt64 2147483647 < 0 by
    rw [nI_l hn, eL, cmp_lt (by omega) (by omega)]; exact b2), eM, if_neg (nI_nlt (by omega) (by omega))]
  simp only [b_s, z1, if_false]
  obtain ⟨N, hV, hN, ⟨T, hT⟩, hK⟩ := h.1
  have hN6 := hV.1
  rw [hV.2.1, hV.2.2.1, hT.2.1, hT.2.2.1, gd_t _ in13, cl13, hN.2.2]
  by_cases q : nI N = 0
  · rw [if_pos q, if_pos q]
    exact ⟨-4, sc, sm, rfl, rfl, h⟩
  rw [if_neg q, if_neg q]
  have N0 : 0 < N := by
    rcases Nat.eq_zero_or_pos N with z | z
    · subst z; exact absurd rfl q
    · exact z
  by_cases q2 : sm.1 14 13 + 70 * x ≤ 9999
  case neg =>
    rw [if_neg q2, if_neg q2]
    exact ⟨-4, sc, sm, rfl, rfl, h⟩
  rw [if_pos q2, if_pos q2]
  by_cases q3 : nI T + x ≤ 60
  case neg =>
    rw [if_neg q3, if_neg q3]
    exact ⟨-2, sc, sm, rfl, rfl, h⟩
  rw [if_pos q3, if_pos q3]
  obtain ⟨c, hc, rfl⟩ := nI_of2 (x := x) (M := 20) (n := 20) (by decide) (fun z => a1 (by
    have := Int32.lt_iff_toInt_lt.mp z
    rw [Int32.lt_iff_toInt_lt]
    have e0 : (0 : Int32).toInt = 0 := by decide
    have e1 : (1 : Int32).toInt = 1 := by decide
    omega)) (Int32.not_lt.mp a2)
  have hTc : T + c ≤ 60 := by
    rw [nI_add, n60'] at q3
    have := hT.1
    exact (nI_leI (by omega) (by omega)).mp q3
  rw [nI_l hn]
  obtain ⟨g, g', e1, e2, u, k, s1, s2, rfl, rfl, hR⟩ := iter_two (body := fun v : Int64 × Int32 × Int32 × St => l_X5_lots_87 (nI c) (nI n) v.1 v.2.1 v.2.2.1 v.2.2.2) (body' := fun v : Int64 × Int32 × Int32 × St => l_X6_lots_74 (nI c) (nI n) v.1 v.2.1 v.2.2.1 v.2.2.2) (Out := fun g g' => ∃ u k s1 s2, g = (k, u, nI c, s1) ∧ g' = (k, u, nI c, s2) ∧ RR s1 s2) (fun k v v' => ∃ u d s1 s2, v = (lN d, u, nI k, s1) ∧ v' = (lN d, u, nI k, s2) ∧ d < 2147483647 ∧ RR s1 s2 ∧ s1.1 33 2 = nI (T + k) ∧ s1.1 15 2 = nI N) c (by omega) (fun k v v' hk hS => by
    obtain ⟨u, d, s1, s2, rfl, rfl, hd, hR, ht, hn⟩ := hS
    dsimp only
    unfold l_X5_lots_87 l_X6_lots_74
    by_cases hkc : k < c
    · rw [if_neg (nI_ge hkc (by omega)), if_neg (nI_ge hkc (by omega)), gd_t _ (show nzl 2147483647 = true by decide), gd_t _ (show nzl 2147483647 = true by decide), lw_e, lw_e]
      obtain ⟨N', hV', hN', ⟨T', hT'⟩, hK'⟩ := hR.1
      have eN : N' = N := by
        have := hV'.2.1.symm.trans hn
        have := hV'.1
        exact (nI_eq (by omega) (by omega)).mp (by assumption)
      subst eN
      have eT : T' = T + k := by
        have a := hT'.2.1.symm.trans ht
        have := hT'.1
        exact (nI_eq (by omega) (by omega)).mp a
      subst eT
      have hVV := R_VV hV' hN'
      have em : lN d * 48271 = lN (d * 48271) := by rw [show (48271 : Int64) = lN 48271 by decide +kernel, lN_mul]
      have em' : (48271 : Int64) * lN d = lN (d * 48271) := by rw [show (48271 : Int64) = lN 48271 by decide +kernel, lN_mul, Nat.mul_comm]
      rw [em, em', eL, pk_lRem (by omega) (by omega) (by omega), hn, hV'.2.2.1, nI_l (show N' < 2 ^ 31 by omega)]
      have hnz : nzl (lN N') = true := by
        unfold nzl
        rw [decide_eq_true_eq]
        intro z
        have := (pk_lEQ (a := N') (b := 0) (by omega) (by omega)).mp z
        omega
      have hd2 : d * 48271 % 2147483647 < 2147483647 := Nat.mod_lt _ (by omega)
      have hp : d * 48271 % 2147483647 % N' < N' := Nat.mod_lt _ N0
      generalize d * 48271 % 2147483647 = d2 at hd2 hp ⊢
      simp only [lw_e, gd_t _ hnz, pk_lRem (show d2 < 2 ^ 63 by omega) N0 (show N' < 2 ^ 63 by omega), lN_i]
      generalize d2 % N' = p at hp ⊢
      obtain ⟨v0, v1, v2, v3, v4, v5, v6, v7⟩ := hVV.2.2.2.2.2 p hp
      simp only [gd_i _ (show p < 6 by omega) (show 6 < 2 ^ 31 by omega), nI_clamp (show p < 2 ^ 31 by omega), v1, v2, e_look hVV, m_look hN6 hVV.2.2.1, b_s, e_quick hVV (sN_64 hN6), m_quick hN6 hVV.2.2.1 (sN_64 hN6)]
      obtain ⟨v, sc', sm', r1, r2, r3, r4, r5⟩ := t_one hR hV' hN' hT' hK' (by omega) hp (bestF (fun th => smF (secF s2 (sN (lookF s2 (s2.1 8 p) (s2.1 9 p)) N') th) N') 6)
      simp only [r1, r2, b_s, lw_e, nI_1]
      exact Or.inl ⟨hkc, _, _, rfl, rfl, u + v, d2, sc', sm', rfl, rfl, hd2, r3, r4, r5⟩
    · have : k = c := by omega
      subst this
      rw [if_pos (nI_le (Nat.le_refl _) (by omega)), if_pos (nI_le (Nat.le_refl _) (by omega))]
      exact Or.inr ⟨_, _, rfl, rfl, u, _, s1, s2, rfl, rfl, hR⟩) (v := (lN n, 0, 0, sc)) (v' := (lN n, 0, 0, sm)) ⟨0, n, sc, sm, rfl, rfl, b2, h, hT.2.1, hV.2.1⟩
  rw [e1, e2]
  exact ⟨u, s1, s2, rfl, rfl, hR⟩
theorem s_undo {sc sm : St} (h : RR sc sm) (x : Int32) : Sim (f_X5_undo x sc) (f_X6_undo x sm) := by
  obtain ⟨N, hV, hN, ⟨T, hT⟩, hK⟩ := h.1
  have hN6 := hV.1
  have hT6 := hT.1
  unfold f_X5_undo f_X6_undo
  rw [hT.2.1, hT.2.2.1]
  rcases t_ix T (by omega) x (nI T) rfl (sm := sm) with ⟨t, ht, rfl, e⟩ | ⟨e, q | ⟨q1, q2⟩⟩
  case inr.inl =>
    rw [e, if_pos q]
    exact ⟨-1, sc, sm, rfl, rfl, h⟩
  case inr.inr =>
    rw [e, if_neg q1, if_neg (fun z => by
      have a := Int32.le_iff_toInt_le.mp q2
      have b := Int32.le_iff_toInt_le.mp z
      rw [nI_toInt (by omega)] at a b
      omega)]
    exact ⟨-1, sc, sm, rfl, rfl, h⟩
  rw [e, if_neg (nI_pos (by omega)), if_pos (nI_le ht (by omega)), b_s, lw_e]
  simp only [z1, if_false]
  rw [hT.2.2.1, lw_e]
  obtain ⟨sc', g1, g2, g3⟩ := e_go (R_CF hV) hT.2.1 hT6 ht (fun i hi => hT.2.2.2.1 i (by omega))
  rw [g1, b_s]
  have hm : ∃ v f, iter (fun v : Int32 × St => l_X6_undo_23 (nI t) (nI T - nI t) v.1 v.2) fuel (0, sm) = some (v, sA sm 14 f) ∧ ∀ j, j < 14 → f j = nowN (sm.1 7) (sm.1 10) (sm.1 11) (sc.1 37) (sc.1 41) t j := by
    have es : nI T - nI t = nI (T - t) := by
      have : nI T = nI (T - t) + nI t := by rw [nI_add, show T - t + t = T by omega]
      rw [this]
      simp
    rw [es]
    by_cases z : t = T
    · subst z
      refine ⟨0, sm.1 14, ?_, hT.2.2.2.2.1⟩
      refine iter_fold (fun _ => ((0 : Int32), sm)) 0 _ (by omega) (fun k hk => by omega) ?_
      dsimp only
      unfold l_X6_undo_23
      rw [if_neg (by decide), if_pos (by rw [show t - t = 0 by omega]; decide), sA_id]
    · obtain ⟨f, e1, f1, -⟩ := cp_loop (body := fun v : Int32 × St => l_X6_undo_23 (nI t) (nI (T - t)) v.1 v.2) (sm := sm) 14 14 (by omega) (fun k => k) (fun k => sm.1 15 (14 * t + k)) (fun i j _ _ h => h) (fun k g hk => by
        dsimp only
        unfold l_X6_undo_23
        rw [ix14, gd_i _ (show 14 * t + k < 840 by omega) (by omega), gd_i _ (show k < 14 by omega) (by omega), ls_e, nI_clamp (show 14 * t + k < 2 ^ 31 by omega), nI_clamp (show k < 2 ^ 31 by omega), n14, if_neg (nI_ge hk (by omega)), if_neg (nI_nle (by omega) (by omega)), nI_1, sA_sA, sA_k, sA_n (show (15 : Nat) ≠ 14 by omega)]) (fun g => by
        dsimp only
        unfold l_X6_undo_23
        rw [n14, if_pos (nI_le (Nat.le_refl _) (by omega))])
      exact ⟨_, f, e1, fun j hj => by rw [f1 j hj]; exact hT.2.2.2.2.2 t (by omega) j hj⟩
  obtain ⟨v, f, e1, f1⟩ := hm
  rw [e1, b_s, ls_e]
  dsimp only
  rw [sA_n (show (0 : Nat) ≠ 14 by omega)]
  refine ⟨_, _, _, rfl, rfl, ?_⟩
  have o : ∀ k, k ≠ 15 → ¬ (17 ≤ k ∧ k < 23) → k ≠ 33 → sc'.1 k = sc.1 k := fun k h1 h2 h3 => by rw [g3.1 k h1 h2, sA_n h3]
  have om : ∀ k, k ≠ 0 → k ≠ 14 → (sA (sA sm 14 f) 0 (upd (sm.1 0) 21 (nI t))).1 k = sm.1 k := fun k h1 h2 => by rw [sA_n h1, sA_n h2]
  have og : ∀ p j, p < 6 → j < 6 → sc'.1 (17 + p) j = sc.1 (17 + p) j := fun p j hp hj => by rw [g3.2.2.1 p j hp hj, sA_n (by omega)]
  have o14 : (sA (sA sm 14 f) 0 (upd (sm.1 0) 21 (nI t))).1 14 = f := by rw [sA_n (by omega), sA_k]
  have o0 : (sA (sA sm 14 f) 0 (upd (sm.1 0) 21 (nI t))).1 0 = upd (sm.1 0) 21 (nI t) := sA_k
  generalize hsm : sA (sA sm 14 f) 0 (upd (sm.1 0) 21 (nI t)) = sm' at om o14 o0 ⊢
  have o2 : sm'.2 = sm.2 := by rw [← hsm]; rfl
  refine ⟨⟨N, ?_, ?_, ⟨t, ?_⟩, fun k hk => ?_⟩, RO_congr (fun k h1 h2 => o k (by omega) (by omega) (by omega)) (om 2 (by omega) (by omega)) (om 3 (by omega) (by omega)) h.2.1, RX_congr (fun k h1 h2 => o k (by omega) (by omega) (by omega)) (om 5 (by omega) (by omega)) (om 6 (by omega) (by omega)) h.2.2.1, ?_⟩
  · refine ⟨hN6, by rw [g3.2.1, sA_n (by omega)]; exact hV.2.1, by rw [o0, pk_un (by omega)]; exact hV.2.2.1, fun p hp => ?_⟩
    obtain ⟨d1, d2⟩ := hV.2.2.2 p hp
    rw [om 8 (by omega) (by omega), om 9 (by omega) (by omega), om 12 (by omega) (by omega)]
    exact ⟨fun j hj => by rw [om (7 + j) (by omega) (by omega), og p j (by omega) hj]; exact d1 j hj, d2⟩
  · refine ⟨fun p hp => ?_, ?_, ?_⟩
    · rw [o14, f1 p (by omega), f1 (6 + p) (by omega)]; exact g2.1 p hp
    · rw [o14, f1 12 (by omega)]; exact g2.2.1
    · rw [o14, f1 13 (by omega)]; exact g2.2.2
  · refine ⟨by omega, by rw [g3.1 33 (by omega) (by omega), sA_k, pk_us], by rw [o0, pk_us], ?_⟩
    rw [o 37 (by omega) (by omega) (by omega), o 41 (by omega) (by omega) (by omega), om 7 (by omega) (by omega), om 10 (by omega) (by omega), om 11 (by omega) (by omega), om 15 (by omega) (by omega), o14]
    exact ⟨fun i hi => hT.2.2.2.1 i (by omega), f1, fun i hi => hT.2.2.2.2.2 i (by omega)⟩
  · have := hK k hk
    unfold RK RK1 at this ⊢
    rw [o (24 + k) (by omega) (by omega) (by omega), o (30 + k) (by omega) (by omega) (by omega), o (27 + k) (by omega) (by omega) (by omega), o (34 + k) (by omega) (by omega) (by omega), o (38 + k) (by omega) (by omega) (by omega), om 16 (by omega) (by omega), om 17 (by omega) (by omega), om 18 (by omega) (by omega), om 19 (by omega) (by omega), om 20 (by omega) (by omega), om 7 (by omega) (by omega), om 10 (by omega) (by omega)]
    exact this
  · obtain ⟨a, b, c, d, e⟩ := h.2.2.2
    unfold RF
    rw [o 0 (by omega) (by omega) (by omega), o 43 (by omega) (by omega) (by omega), o0, pk_un (by omega), pk_un (by omega), om 1 (by omega) (by omega), o2, g3.2.2.2]
    exact ⟨a, b, c, d, e⟩
