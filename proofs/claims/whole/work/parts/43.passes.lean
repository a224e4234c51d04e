/-! A QUEUE WALKED THROUGH -/
theorem e_pat (k : Nat) (st : St) : f_X2_patience k st = some (if st.1 k 0 = 3 then 20 else 60, st) := by
  unfold f_X2_patience
  rw [e_hur, b_s]
  by_cases h : st.1 k 0 = 3
  · simp [h]
  · simp [h]
theorem subself (x : Int32) : x - x = 0 := by simp
def c42 (sc s1 : St) : Prop := (∀ k, k ≠ 42 → s1.1 k = sc.1 k) ∧ s1.2 = sc.2
def m0Q (sm s1 : St) : Prop := (∀ k, k ≠ 0 → s1.1 k = sm.1 k) ∧ s1.2 = sm.2 ∧ ∀ j, j < 28 → s1.1 0 j = sm.1 0 j
theorem t_walk {N : Nat} {sc sm : St} (hV : VV N sc sm) {r m : Nat} (hr : r < 6) (hm : m ≤ 8) (hs2 : sm.1 2 r = nI (2 * m)) (hf : ∀ i, i < 2 * m → sc.1 (2 + r) i = sm.1 3 (40 * r + i)) (hok : ∀ k, k < m → okQ N (fun i => sm.1 3 (40 * r + i)) k) (x : Int32) :
    ∃ s1 s2, f_X1_walk (2 + r) (nI (2 * m)) x sc = some s1 ∧ f_X6_passes (nI r) x sm = some s2 ∧ c42 sc s1 ∧ m0Q sm s2 ∧ s1.1 42 0 = s2.1 0 30 ∧ s1.1 42 1 = s2.1 0 28 ∧ s1.1 42 2 = s2.1 0 29 := by
  have hN := hV.1
  unfold f_X1_walk f_X6_passes
  simp only [ls_e]
  obtain ⟨g, g', i1, i2, o1, o2, o3, o4, o5⟩ := iter_two (body := fun v : Int32 × St => l_X1_walk_18 (2 + r) (nI (2 * m)) x v.1 v.2) (body' := fun v : Int32 × St => l_X6_passes_17 (nI r) x v.1 v.2)
    (Out := fun g g' => c42 sc g.2 ∧ m0Q sm g'.2 ∧ g.2.1 42 0 = g'.2.1 0 30 ∧ g.2.1 42 1 = g'.2.1 0 28 ∧ g.2.1 42 2 = g'.2.1 0 29)
    (fun k v v' => v.1 = nI (2 * k) ∧ v'.1 = nI (2 * k) ∧ c42 sc v.2 ∧ m0Q sm v'.2 ∧ v.2.1 42 0 = v'.2.1 0 30 ∧ v.2.1 42 1 = v'.2.1 0 28 ∧ v.2.1 42 2 = v'.2.1 0 29) m (by omega) (by
      rintro k ⟨a, s⟩ ⟨b, t⟩ hk ⟨e1, e2, hc, hq, q1, q2, q3⟩
      dsimp only at e1 e2 hc hq q1 q2 q3 ⊢
      subst e1
      subst e2
      unfold l_X1_walk_18 l_X6_passes_17
      have ht2 : t.1 2 r = nI (2 * m) := by rw [hq.1 2 (by omega)]; exact hs2
      rw [n2, nI_1, nI_add, show 2 * k + 2 = 2 * (k + 1) by omega]
      by_cases hkm : ¬ k < m
      · right
        have : k = m := by omega
        subst this
        rw [if_pos (nI_le (show 2 * k ≤ 2 * k + 1 by omega) (by omega))]
        simp only [gd_i _ hr (show 6 < 2 ^ 31 by omega), nI_clamp (show r < 2 ^ 31 by omega), ht2, if_y (nI_le (Nat.le_refl (2 * k)) (show 2 * k < 2 ^ 31 by omega))]
        exact ⟨_, _, rfl, rfl, hc, hq, q1, q2, q3⟩
      replace hkm := Decidable.not_not.mp hkm
      left
      refine ⟨hkm, ?_⟩
      obtain ⟨⟨p, hp, ep⟩, -, -⟩ := hok k hkm
      dsimp only at ep
      have hp6 : p < 6 := by omega
      obtain ⟨v0, v1, v2, v3, v4, v5, v6, v7⟩ := hV.2.2.2.2.2 p hp
      have c0 : s.1 (2 + r) (2 * k) = nI p := by rw [hc.1 (2 + r) (by omega), hf _ (by omega)]; exact ep
      have c1 : s.1 (2 + r) (2 * k + 1) = sm.1 3 (40 * r + (2 * k + 1)) := by rw [hc.1 (2 + r) (by omega), hf _ (by omega)]
      have t3 : t.1 3 = sm.1 3 := hq.1 3 (by omega)
      have k1 : s.1 (17 + p) = sc.1 (17 + p) := hc.1 (17 + p) (by omega)
      have k7 : t.1 7 = sm.1 7 := hq.1 7 (by omega)
      have k14 : t.1 14 = sm.1 14 := hq.1 14 (by omega)
      generalize hfrom : sm.1 3 (40 * r + (2 * k + 1)) = fr at c1
      simp only [if_neg (nI_ge (show 2 * k + 1 < 2 * m by omega) (show 2 * m < 2 ^ 31 by omega)), if_neg (nI_ge (show 2 * k < 2 * m by omega) (show 2 * m < 2 ^ 31 by omega)), gd_i _ hr (show 6 < 2 ^ 31 by omega), nI_clamp (show r < 2 ^ 31 by omega), ht2, gd_i _ (show 2 * k < 40 by omega) (show 40 < 2 ^ 31 by omega), gd_i _ (show 2 * k + 1 < 40 by omega) (show 40 < 2 ^ 31 by omega), nI_clamp (show 2 * k < 2 ^ 31 by omega), nI_clamp (show 2 * k + 1 < 2 ^ 31 by omega), c0, c1, gd_i _ hp6 (show 6 < 2 ^ 31 by omega), nI_clamp (show p < 2 ^ 31 by omega), lw_e, ls_e, m_rowAt hr (show 2 * k < 40 by omega), m_rowAt hr (show 2 * k + 1 < 40 by omega), b_s, t3, ep, hfrom, e_pat, e_ask, m_ask hp6, k7, k14, sA_n (show 17 + p ≠ 42 by omega), k1, v0, v6, sA_k, pk_us, q1, add0, subself]
      -- when its turn comes
      by_cases hle : fr ≤ t.1 0 30
      · have hnl : ¬ t.1 0 30 < fr := Int32.not_lt.mpr hle
        simp only [if_pos hle, if_neg hnl]
        by_cases hlim : t.1 0 30 - fr ≤ (if sm.1 7 p = 3 then 20 else 60)
        · simp only [if_pos hlim]
          by_cases hx : x < t.1 0 30 + askF (sm.1 14 p)
          · simp only [if_pos hx]
            refine ⟨_, _, rfl, by
              by_cases h3 : sm.1 7 p = 3
              · simp only [if_pos h3] at hlim ⊢
                rw [if_pos hlim]
              · simp only [if_neg h3] at hlim ⊢
                rw [if_pos hlim], rfl, rfl, ⟨fun y hy => by rw [sA_n hy, sA_n hy]; exact hc.1 y hy, hc.2⟩, ⟨fun y hy => by rw [sA_n hy, sA_n hy]; exact hq.1 y hy, hq.2.1, fun j hj => ?_⟩, ?_, ?_, ?_⟩
            · rw [sA_k, pk_un (by omega), pk_un (by omega)]; exact hq.2.2 j hj
            · rw [sA_k, sA_k, pk_us, pk_un (by omega), pk_us]
            · rw [sA_k, sA_k, pk_un (by omega), pk_un (by omega), pk_un (by omega), pk_un (by omega)]; exact q2
            · rw [sA_k, sA_k, pk_un (by omega), pk_un (by omega), pk_us, pk_un (by omega)]; exact q3
          · simp only [if_neg hx]
            refine ⟨_, _, rfl, by
              by_cases h3 : sm.1 7 p = 3
              · simp only [if_pos h3] at hlim ⊢
                rw [if_pos hlim]
              · simp only [if_neg h3] at hlim ⊢
                rw [if_pos hlim], rfl, rfl, ⟨fun y hy => by rw [sA_n hy, sA_n hy, sA_n hy]; exact hc.1 y hy, hc.2⟩, ⟨fun y hy => by rw [sA_n hy, sA_n hy]; exact hq.1 y hy, hq.2.1, fun j hj => ?_⟩, ?_, ?_, ?_⟩
            · rw [sA_k, pk_un (by omega), pk_un (by omega)]; exact hq.2.2 j hj
            · rw [sA_k, sA_k, pk_un (by omega), pk_us, pk_un (by omega), pk_us]
            · rw [sA_k, sA_k, pk_un (by omega), pk_un (by omega), pk_un (by omega), pk_un (by omega), pk_un (by omega)]; exact q2
            · rw [sA_k, sA_k, pk_us, pk_un (by omega), pk_un (by omega), pk_us, pk_un (by omega), q3]
        · simp only [if_neg hlim]
          refine ⟨_, _, rfl, by
            by_cases h3 : sm.1 7 p = 3
            · simp only [if_pos h3] at hlim ⊢
              rw [if_neg hlim]
            · simp only [if_neg h3] at hlim ⊢
              rw [if_neg hlim], rfl, rfl, ⟨fun y hy => by rw [sA_n hy, sA_n hy]; exact hc.1 y hy, hc.2⟩, ⟨fun y hy => by rw [sA_n hy]; exact hq.1 y hy, hq.2.1, fun j hj => ?_⟩, ?_, ?_, ?_⟩
          · rw [sA_k, pk_un (by omega)]; exact hq.2.2 j hj
          · rw [sA_k, sA_k, pk_un (by omega), pk_us, pk_un (by omega)]
          · rw [sA_k, sA_k, pk_us, pk_un (by omega), pk_us, q2]
          · rw [sA_k, sA_k, pk_un (by omega), pk_un (by omega), pk_un (by omega)]; exact q3
      · have hlt : t.1 0 30 < fr := Int32.not_le.mp hle
        have h20 : (0 : Int32) ≤ 20 := by decide
        have h60 : (0 : Int32) ≤ 60 := by decide
        have hlim : (0 : Int32) ≤ (if sm.1 7 p = 3 then 20 else 60) := by split <;> decide
        simp only [if_neg hle, if_pos hlt, subself, if_pos hlim, if_pos h20, if_pos h60]
        by_cases hx : x < fr + askF (sm.1 14 p)
        · simp only [if_pos hx]
          refine ⟨_, _, rfl, by split <;> rfl, rfl, rfl, ⟨fun y hy => by rw [sA_n hy, sA_n hy]; exact hc.1 y hy, hc.2⟩, ⟨fun y hy => by rw [sA_n hy, sA_n hy]; exact hq.1 y hy, hq.2.1, fun j hj => ?_⟩, ?_, ?_, ?_⟩
          · rw [sA_k, pk_un (by omega), pk_un (by omega)]; exact hq.2.2 j hj
          · rw [sA_k, sA_k, pk_us, pk_un (by omega), pk_us]
          · rw [sA_k, sA_k, pk_un (by omega), pk_un (by omega), pk_un (by omega), pk_un (by omega)]; exact q2
          · rw [sA_k, sA_k, pk_un (by omega), pk_un (by omega), pk_us, pk_un (by omega)]; exact q3
        · simp only [if_neg hx]
          refine ⟨_, _, rfl, by split <;> rfl, rfl, rfl, ⟨fun y hy => by rw [sA_n hy, sA_n hy, sA_n hy]; exact hc.1 y hy, hc.2⟩, ⟨fun y hy => by rw [sA_n hy, sA_n hy]; exact hq.1 y hy, hq.2.1, fun j hj => ?_⟩, ?_, ?_, ?_⟩
          · rw [sA_k, pk_un (by omega), pk_un (by omega)]; exact hq.2.2 j hj
          · rw [sA_k, sA_k, pk_un (by omega), pk_us, pk_un (by omega), pk_us]
          · rw [sA_k, sA_k, pk_un (by omega), pk_un (by omega), pk_un (by omega), pk_un (by omega), pk_un (by omega)]; exact q2
          · rw [sA_k, sA_k, pk_us, pk_un (by omega), pk_un (by omega), pk_us, pk_un (by omega), q3])
    (v := (0, sA (sA (sA sc 42 (upd (sc.1 42) 0 0)) 42 (upd ((sA sc 42 (upd (sc.1 42) 0 0)).1 42) 1 0)) 42 (upd ((sA (sA sc 42 (upd (sc.1 42) 0 0)) 42 (upd ((sA sc 42 (upd (sc.1 42) 0 0)).1 42) 1 0)).1 42) 2 0)))
    (v' := (0, sA (sA (sA sm 0 (upd (sm.1 0) 28 0)) 0 (upd ((sA sm 0 (upd (sm.1 0) 28 0)).1 0) 29 0)) 0 (upd ((sA (sA sm 0 (upd (sm.1 0) 28 0)) 0 (upd ((sA sm 0 (upd (sm.1 0) 28 0)).1 0) 29 0)).1 0) 30 0)))
    ⟨by rw [show nI (2 * 0) = 0 by decide +kernel], by rw [show nI (2 * 0) = 0 by decide +kernel], ⟨fun y hy => by rw [sA_n hy, sA_n hy, sA_n hy], rfl⟩, ⟨fun y hy => by rw [sA_n hy, sA_n hy, sA_n hy], rfl, fun j hj => by rw [sA_k, sA_k, sA_k, pk_un (by omega), pk_un (by omega), pk_un (by omega)]⟩, rfl, rfl, rfl⟩
  rw [i1, i2]
  exact ⟨g.2, g'.2, rfl, rfl, o1, o2, o3, o4, o5⟩
theorem R_walk {sc sm s1 s2 : St} (h : RR sc sm) (h1 : c42 sc s1) (h2 : m0Q sm s2) : RR s1 s2 := by
  refine R_F h (fun k k1 k2 => h1.1 k (by omega)) (fun k k1 k2 k3 k4 => h2.1 k (by omega)) (h2.2.2 10 (by omega)) (h2.2.2 21 (by omega)) ?_
  obtain ⟨a, b, c, d, e⟩ := h.2.2.2
  unfold RF
  rw [h1.1 0 (by omega), h1.1 43 (by omega), h2.1 1 (by omega), h2.2.2 0 (by omega), h2.2.2 2 (by omega), h1.2, h2.2.1]
  exact ⟨a, b, c, d, e⟩
theorem s_queue {sc sm : St} (h : RR sc sm) (x : Int32) : Sim (f_X5_queue x sc) (f_X6_queue x sm) := by
  obtain ⟨N, hV, hB⟩ := R_V h
  unfold f_X5_queue f_X6_queue
  rcases t_queue h hV x with ⟨v, sc', sm', e1, e2, h', n1, n2⟩ | ⟨r, m, hr, hm, rfl, e1, e2, a, b, c, hok⟩
  · simp only [e1, e2, b_s, if_neg n1, if_neg n2]
    exact ⟨v, sc', sm', rfl, rfl, h'⟩
  · obtain ⟨s1, s2, w1, w2, w3, w4, w5, w6, w7⟩ := t_walk hV hr hm b c hok 9999
    have h00 : (0 : Int32) ≤ 0 := by decide
    simp only [e1, e2, b_s, if_true, if_pos h00, gd_i _ hr (show 6 < 2 ^ 31 by omega), nI_clamp (show r < 2 ^ 31 by omega), a, w1, w2, ls_e, b_eta]
    unfold f_X6_tells
    refine ⟨s2.1 0 28, sA s1 0 (upd (s1.1 0) 9 (s2.1 0 30)), _, ?_, rfl, ?_⟩
    · rw [sA_n (show (42 : Nat) ≠ 0 by omega), w6, w5]
    · exact s_ask (R_walk h w3 w4) (s2.1 0 30)
theorem needQ0 (x : Int32) (sm : St) : f_X6_needQueue x 0 sm = some (-1, sm) := by
  unfold f_X6_needQueue
  rw [if_pos rfl]
theorem s_by {sc sm : St} (h : RR sc sm) (x y : Int32) : Sim (f_X5_by x y sc) (f_X6_by x y sm) := by
  obtain ⟨N, hV, hB⟩ := R_V h
  unfold f_X5_by f_X6_by
  rw [m_in]
  have hm1 : ¬ (0 : Int32) ≤ -1 := by decide
  by_cases h1 : y < 0
  · simp only [if_pos h1, b_s, needQ0, if_neg hm1]
    exact ⟨-1, sc, sm, rfl, rfl, h⟩
  by_cases h2 : (9999 : Int32) < y
  · simp only [if_neg h1, if_pos h2, if_neg (Int32.not_le.mpr h2), b_s, needQ0, if_neg hm1]
    exact ⟨-1, sc, sm, rfl, rfl, h⟩
  simp only [if_neg h1, if_neg h2, if_pos (Int32.not_lt.mp h2), b_s]
  rcases t_queue h hV x with ⟨v, sc', sm', e1, e2, h', n1, n2⟩ | ⟨r, m, hr, hm, rfl, e1, e2, a, b, c, hok⟩
  · simp only [e1, e2, b_s, if_neg n1, if_neg n2]
    exact ⟨v, sc', sm', rfl, rfl, h'⟩
  · obtain ⟨s1, s2, w1, w2, w3, w4, w5, w6, w7⟩ := t_walk hV hr hm b c hok y
    have h00 : (0 : Int32) ≤ 0 := by decide
    simp only [e1, e2, b_s, if_true, if_pos h00, gd_i _ hr (show 6 < 2 ^ 31 by omega), nI_clamp (show r < 2 ^ 31 by omega), a, w1, w2]
    exact ⟨s2.1 0 29, s1, s2, by rw [w7], rfl, R_walk h w3 w4⟩
