/-! copy -/
theorem cmp_gt {a b : Nat} (ha : a < 2 ^ 63) (hb : b < 2 ^ 63) : (0 < lg_cmp (lN a) (lN b)) ↔ b < a := by
  unfold lg_cmp
  rcases Nat.lt_trichotomy b a with q | q | q
  · rw [if_pos ((pk_lLT hb ha).mpr q)]
    exact ⟨fun _ => q, fun _ => by decide⟩
  · rw [if_neg (fun z => absurd ((pk_lLT hb ha).mp z) (by omega)), if_pos (by rw [q])]
    exact ⟨fun z => absurd z (by decide), fun z => by omega⟩
  · rw [if_neg (fun z => absurd ((pk_lLT hb ha).mp z) (by omega)), if_neg (fun z => absurd ((pk_lEQ ha hb).mp z) (by omega))]
    exact ⟨fun z => absurd z (by decide), fun z => by omega⟩
theorem cmp_le {a b : Nat} (ha : a < 2 ^ 63) (hb : b < 2 ^ 63) : (lg_cmp (lN a) (lN b) ≤ 0) ↔ a ≤ b := by
  have := cmp_gt ha hb
  rw [← Int32.not_lt, this]
  omega
theorem sub_lt {s a c : Nat} (hs : s ≤ 1000) (ha : a < 2 ^ 31) (hc : c < 2 ^ 31) : (nI s - nI c < nI a) ↔ s < a + c := by
  have e : (nI s - nI c).toInt = (s : Int) - c := by
    rw [Int32.toInt_sub, nI_toInt (by omega), nI_toInt hc]
    exact Int.bmod_eq_of_le (by omega) (by omega)
  rw [Int32.lt_iff_toInt_lt, e, nI_toInt ha]
  omega
theorem le_sub {s a c : Nat} (hs : s ≤ 1000) (ha : a < 2 ^ 31) (hc : c < 2 ^ 31) : (nI a ≤ nI s - nI c) ↔ a + c ≤ s := by
  rw [← Int32.not_lt, sub_lt hs ha hc]
  omega
theorem s_copy {sc sm : St} (h : RR sc sm) (x i to j n : Int32) : Sim (f_X5_copy x i to j n sc) (f_X6_copy x i to j n sm) := by
  unfold f_X5_copy f_X6_copy
  rcases t_row h x with ⟨e1, e2⟩ | ⟨r, hr, rfl, e1, e2, hA⟩
  · rw [e1, e2]
    exact ⟨-1, sc, sm, rfl, rfl, h⟩
  rcases t_row h to with ⟨d1, d2⟩ | ⟨u, hu, rfl, d1, d2, hB⟩
  · simp only [e1, e2, b_s, z1, if_false, d1, d2, if_true]
    exact ⟨-1, sc, sm, rfl, rfl, h⟩
  simp only [e1, e2, b_s, z1, if_false, d1, d2, b_eta, gd_i _ hr (show 6 < 2 ^ 31 by omega), nI_clamp (show r < 2 ^ 31 by omega), gd_i _ hu (show 6 < 2 ^ 31 by omega), nI_clamp (show u < 2 ^ 31 by omega)]
  by_cases hn : ¬ (0 ≤ n)
  · simp only [if_neg hn]
    obtain ⟨sc', sm', f1, f2, h'⟩ := s_found h (x := 5) 5 (by omega) (by decide +kernel)
    exact ⟨-3, sc', sm', f1, f2, h'⟩
  replace hn := Decidable.not_not.mp hn
  simp only [if_pos hn]
  obtain ⟨c, hc, rfl⟩ := nI_of (Int32.not_lt.mpr hn)
  obtain ⟨n1, m1, g1, g2, g3⟩ := s_found h (x := 1) 1 (by omega) (by decide +kernel)
  rcases hA with ⟨a, b⟩ | ⟨s, hs, a, b, cA⟩
  · simp only [a, b, if_y (show (-1 : Int32) < 0 by decide)]
    exact ⟨-3, n1, m1, g1, g2, g3⟩
  rw [a, b, if_neg (nI_pos (show s < 2 ^ 31 by omega)), if_neg (nI_pos (show s < 2 ^ 31 by omega))]
  rcases hB with ⟨a', b'⟩ | ⟨v, hv, a', b', cB⟩
  · simp only [a', b', zge1, if_false]
    exact ⟨-3, n1, m1, g1, g2, g3⟩
  rw [a', b', if_pos (nI_pos' (show v < 2 ^ 31 by omega)), if_pos (nI_pos' (show v < 2 ^ 31 by omega))]
  obtain ⟨n2, m2, k1, k2, k3⟩ := s_found h (x := 2) 2 (by omega) (by decide +kernel)
  by_cases hi : i < 0
  · rw [if_pos hi, if_pos hi]
    exact ⟨-3, n2, m2, k1, k2, k3⟩
  rw [if_neg hi, if_neg hi]
  by_cases hj : j < 0
  · rw [if_pos hj, if_pos hj]
    exact ⟨-3, n2, m2, k1, k2, k3⟩
  rw [if_neg hj, if_neg hj]
  obtain ⟨p, hp, rfl⟩ := nI_of hi
  obtain ⟨q, hq, rfl⟩ := nI_of hj
  rw [nI_l hp, nI_l hc, nI_l hq, nI_l (show s < 2 ^ 31 by omega), nI_l (show v < 2 ^ 31 by omega), lN_add, lN_add]
  by_cases w1 : s < p + c
  · rw [if_pos ((sub_lt (by omega) hp hc).mpr w1), if_pos ((cmp_gt (by omega) (by omega)).mpr w1)]
    exact ⟨-3, n2, m2, k1, k2, k3⟩
  rw [if_neg (fun z => w1 ((sub_lt (by omega) hp hc).mp z)), if_neg (fun z => w1 ((cmp_gt (by omega) (by omega)).mp z))]
  by_cases w2 : ¬ (q + c ≤ v)
  · rw [if_neg (fun z => w2 ((le_sub (by omega) hq hc).mp z)), if_neg (fun z => w2 ((cmp_le (by omega) (by omega)).mp z))]
    exact ⟨-3, n2, m2, k1, k2, k3⟩
  replace w2 := Decidable.not_not.mp w2
  rw [if_pos ((le_sub (by omega) hq hc).mpr w2), if_pos ((cmp_le (by omega) (by omega)).mpr w2)]
  have hg : cpg (nI p) (nI q) (nI c) 40 40 = true := by
    unfold cpg
    simp only [Bool.and_eq_true, decide_eq_true_eq]
    rw [nI_clamp hp, nI_clamp hq, nI_clamp hc]
    exact ⟨⟨⟨⟨nI_pos' hp, nI_pos' hq⟩, nI_pos' hc⟩, by omega⟩, by omega⟩
  rw [gd_t _ hg, ls_e, nI_clamp hp, nI_clamp hq, nI_clamp hc]
  have l1 := iter_inv (body := fun w : Int32 × St => l_X6_copy_104 (nI r) (nI p) (nI u) (nI q) (nI c) w.1 w.2) (Out := fun g => (∀ k, k ≠ 4 → g.2.1 k = sm.1 k) ∧ g.2.2 = sm.2 ∧ ∀ t, t < c → g.2.1 4 t = sm.1 3 (40 * r + (p + t)))
    (fun k w => w.1 = nI k ∧ (∀ y, y ≠ 4 → w.2.1 y = sm.1 y) ∧ w.2.2 = sm.2 ∧ ∀ t, t < k → w.2.1 4 t = sm.1 3 (40 * r + (p + t))) c (by omega) (by
      rintro k ⟨y, t0⟩ hk ⟨e, h1, h2, h3⟩
      dsimp only at e h1 h2 h3 ⊢
      subst e
      unfold l_X6_copy_104
      by_cases hkn : k < c
      · left
        refine ⟨hkn, (nI (k + 1), sA t0 4 (upd (t0.1 4) k (t0.1 3 (40 * r + (p + k))))), ?_, rfl, fun y hy => by rw [sA_n hy]; exact h1 y hy, h2, fun t ht => ?_⟩
        · rw [if_neg (nI_ge hkn (by omega)), nI_add, m_rowAt hr (show p + k < 40 by omega)]
          simp only [b_s, gd_i _ (show k < 40 by omega) (show 40 < 2 ^ 31 by omega), ls_e, nI_clamp (show k < 2 ^ 31 by omega), nI_1]
        · dsimp only
          rw [sA_k]
          by_cases e : t = k
          · subst e; rw [pk_us, h1 3 (by omega)]
          · rw [pk_un e]; exact h3 t (by omega)
      · right
        have : k = c := by omega
        subst this
        exact ⟨(nI k, t0), by rw [if_pos (nI_le (Nat.le_refl k) (by omega))], h1, h2, h3⟩) (v := (0, sm)) ⟨nI_0.symm, fun _ _ => rfl, rfl, fun t ht => by omega⟩
  obtain ⟨g, e4, p1, p2, p3⟩ := l1
  rw [e4, b_s]
  have l2 := iter_inv (body := fun w : Int32 × St => l_X6_copy_136 (nI r) (nI p) (nI u) (nI q) (nI c) w.1 w.2) (Out := fun d => (∀ k, k ≠ 3 → k ≠ 4 → d.2.1 k = sm.1 k) ∧ d.2.2 = sm.2 ∧ (∀ t, t < c → d.2.1 3 (40 * u + (q + t)) = sm.1 3 (40 * r + (p + t))) ∧ ∀ y, (∀ t, t < c → y ≠ 40 * u + (q + t)) → d.2.1 3 y = sm.1 3 y)
    (fun k w => w.1 = nI k ∧ (∀ y, y ≠ 3 → y ≠ 4 → w.2.1 y = sm.1 y) ∧ w.2.2 = sm.2 ∧ w.2.1 4 = g.2.1 4 ∧ (∀ t, t < k → w.2.1 3 (40 * u + (q + t)) = sm.1 3 (40 * r + (p + t))) ∧ ∀ y, (∀ t, t < c → y ≠ 40 * u + (q + t)) → w.2.1 3 y = sm.1 3 y) c (by omega) (by
      rintro k ⟨y, t0⟩ hk ⟨e, h1, h2, h3, h4, h5⟩
      dsimp only at e h1 h2 h3 h4 h5 ⊢
      subst e
      unfold l_X6_copy_136
      by_cases hkn : k < c
      · left
        refine ⟨hkn, (nI (k + 1), sA t0 3 (upd (t0.1 3) (40 * u + (q + k)) (t0.1 4 k))), ?_, rfl, fun y hy hy2 => by rw [sA_n hy]; exact h1 y hy hy2, h2, by rw [sA_n (by omega)]; exact h3, fun t ht => ?_, fun y hy => ?_⟩
        · rw [if_neg (nI_ge hkn (by omega)), gd_i _ (show k < 40 by omega) (by omega), ix40, nI_add, show 40 * u + q + k = 40 * u + (q + k) by omega, gd_i _ (show 40 * u + (q + k) < 240 by omega) (by omega), ls_e, nI_clamp (show 40 * u + (q + k) < 2 ^ 31 by omega), nI_clamp (show k < 2 ^ 31 by omega), nI_1]
        · dsimp only
          rw [sA_k]
          by_cases e : t = k
          · subst e; rw [pk_us, h3, p3 t hkn]
          · rw [pk_un (by omega)]; exact h4 t (by omega)
        · dsimp only
          rw [sA_k, pk_un (hy k hkn)]
          exact h5 y hy
      · right
        have : k = c := by omega
        subst this
        exact ⟨(nI k, t0), by rw [if_pos (nI_le (Nat.le_refl k) (by omega))], h1, h2, h4, h5⟩) (v := (0, g.2)) ⟨nI_0.symm, fun y _ hy => p1 y hy, p2, rfl, fun t ht => by omega, fun y _ => by rw [p1 3 (by omega)]⟩
  obtain ⟨d, e5, q1, q2, q3, q4⟩ := l2
  rw [e5, b_s]
  refine ⟨1, _, d.2, rfl, rfl, ?_⟩
  refine R_row h u (fun k _ k2 => sA_n k2) hu rfl (fun k _ k2 k3 _ => q1 k k2 k3) q2 (fun y _ => by rw [sA_n (by omega)]) (fun y _ => by rw [q1 2 (by omega) (by omega)]) (fun y hy hyu t ht => q4 _ (fun z hz => by omega)) ⟨by rw [sA_n (by omega), q1 2 (by omega) (by omega), a', b'], Or.inr ⟨v, hv, by rw [q1 2 (by omega) (by omega), b'], fun t ht => ?_⟩⟩
  rw [sA_k]
  by_cases w3 : q ≤ t ∧ t < q + c
  · rw [pk_cpy_in w3.1 w3.2]
    have := q3 (t - q) (by omega)
    rw [show q + (t - q) = t by omega] at this
    rw [this]
    exact cA _ (by omega)
  · rw [pk_cpy_out (by omega), q4 _ (fun z hz => by omega)]
    exact cB t ht
/-! TEXTS -/
theorem n60 : (60 : Int32) = nI 60 := by decide +kernel
theorem ix60 (r i : Nat) : (60 : Int32) * nI r + nI i = nI (60 * r + i) := by rw [n60, pk_mul, nI_add]
theorem t_text {sc sm : St} (h : RR sc sm) (x : Int32) : (f_X5_isText x sc = some (0, sc) ∧ f_X6_isText x sm = some (0, sm)) ∨ ∃ r, r < 4 ∧ x = nI r ∧ f_X5_isText x sc = some (1, sc) ∧ f_X6_isText x sm = some (1, sm) ∧ ((sc.1 14 r = -1 ∧ sm.1 5 r = -1) ∨ ∃ n, n ≤ 60 ∧ sc.1 14 r = nI n ∧ sm.1 5 r = nI n ∧ ∀ i, i < n → sc.1 (10 + r) i = sm.1 6 (60 * r + i)) := by
  rcases t_isText x sc sm with ⟨r, hr, rfl, e1, e2⟩ | h
  · right
    refine ⟨r, hr, rfl, e1, e2, ?_⟩
    obtain ⟨a, b | ⟨n, b1, b2, b3⟩⟩ := h.2.2.1 r hr
    · exact Or.inl ⟨a.trans b, b⟩
    · exact Or.inr ⟨n, b1, a.trans b2, b2, b3⟩
  · exact Or.inl h
theorem R_text {sc sm sc' sm' : St} (h : RR sc sm) (r : Nat) (hc : ∀ k, k ≠ 14 → k ≠ 10 + r → sc'.1 k = sc.1 k) (hr : r < 4) (hc2 : sc'.2 = sc.2) (hm : ∀ k, k ≠ 5 → k ≠ 6 → sm'.1 k = sm.1 k) (hm2 : sm'.2 = sm.2) (h8 : ∀ q, q ≠ r → sc'.1 14 q = sc.1 14 q) (h2 : ∀ q, q ≠ r → sm'.1 5 q = sm.1 5 q) (h3 : ∀ q, q < 4 → q ≠ r → ∀ i, i < 60 → sm'.1 6 (60 * q + i) = sm.1 6 (60 * q + i))
    (hr' : sc'.1 14 r = sm'.1 5 r ∧ (sm'.1 5 r = -1 ∨ ∃ n, n ≤ 60 ∧ sm'.1 5 r = nI n ∧ ∀ i, i < n → sc'.1 (10 + r) i = sm'.1 6 (60 * r + i))) : RR sc' sm' := by
  refine ⟨RS_congr (fun k h1 h2 => hc k (by omega) (by omega)) (fun k h1 h2 h3 => hm k (by omega) (by omega)) (by rw [hm 0 (by omega) (by omega)]) (by rw [hm 0 (by omega) (by omega)]) h.1, RO_congr (fun k h1 h2 => hc k (by omega) (by omega)) (hm 2 (by omega) (by omega)) (hm 3 (by omega) (by omega)) h.2.1, ?_, ?_⟩
  · intro q hq
    by_cases e : q = r
    · subst e; exact hr'
    · rw [h8 q e, h2 q e, hc (10 + q) (by omega) (by omega)]
      obtain ⟨a, b | ⟨n, b1, b2, b3⟩⟩ := h.2.2.1 q hq
      · exact ⟨a, Or.inl b⟩
      · exact ⟨a, Or.inr ⟨n, b1, b2, fun i hi => by rw [h3 q hq e i (by omega)]; exact b3 i hi⟩⟩
  · obtain ⟨a, b, c, d, e⟩ := h.2.2.2
    unfold RF
    rw [hc 0 (by omega) (by omega), hc 43 (by omega) (by omega), hm 0 (by omega) (by omega), hm 1 (by omega) (by omega), hc2, hm2]
    exact ⟨a, b, c, d, e⟩
theorem s_text {sc sm : St} (h : RR sc sm) (x y : Int32) : Sim (f_X5_text x y sc) (f_X6_text x y sm) := by
  unfold f_X5_text f_X6_text
  rcases (t_isText x sc sm).symm with ⟨e1, e2⟩ | ⟨r, hr, rfl, e1, e2⟩
  · rw [e1, e2]
    exact ⟨-1, sc, sm, rfl, rfl, h⟩
  rw [e1, e2]
  simp only [b_s, b_eta, z1, if_false]
  by_cases hy : ¬ (y ≤ 60)
  · rw [if_neg hy, if_neg hy]
    exact ⟨-1, sc, sm, rfl, rfl, h⟩
  replace hy := Decidable.not_not.mp hy
  rw [if_pos hy, if_pos hy]
  by_cases hy0 : ¬ (0 ≤ y)
  · rw [if_neg hy0, if_neg hy0]
    obtain ⟨sc', sm', f1, f2, h'⟩ := s_found h (x := 5) 5 (by omega) (by decide +kernel)
    exact ⟨-3, sc', sm', f1, f2, h'⟩
  replace hy0 := Decidable.not_not.mp hy0
  rw [if_pos hy0, if_pos hy0]
  obtain ⟨n, hn, rfl⟩ := nI_of2 (M := 60) (n := 60) (by decide +kernel) (Int32.not_lt.mpr hy0) hy
  have l1 := iter_inv (body := fun v : Int32 × St => l_X5_text_27 (nI r) (nI n) v.1 v.2) (Out := fun g => (∀ k, k ≠ 10 + r → g.2.1 k = sc.1 k) ∧ g.2.2 = sc.2 ∧ ∀ i, i < n → g.2.1 (10 + r) i = (32 : Int32).toInt8.toInt32)
    (fun k v => v.1 = nI k ∧ (∀ q, q ≠ 10 + r → v.2.1 q = sc.1 q) ∧ v.2.2 = sc.2 ∧ ∀ i, i < k → v.2.1 (10 + r) i = (32 : Int32).toInt8.toInt32) n (by omega) (by
      rintro k ⟨v, st⟩ hk ⟨e, h1, h2, h3⟩
      dsimp only at e h1 h2 h3 ⊢
      subst e
      unfold l_X5_text_27
      by_cases hkn : k < n
      · left
        refine ⟨hkn, (nI (k + 1), sA st (10 + r) (upd (st.1 (10 + r)) k ((32 : Int32).toInt8.toInt32))), ?_, rfl, fun q hq => by rw [sA_n hq]; exact h1 q hq, h2, fun i hi => ?_⟩
        · rw [if_neg (nI_ge hkn (by omega)), gd_i _ hr (by omega), gd_i _ (show k < 60 by omega) (by omega), ls_e, nI_clamp (show r < 2 ^ 31 by omega), nI_clamp (show k < 2 ^ 31 by omega), nI_1]
        · dsimp only
          rw [sA_k]
          by_cases e : i = k
          · subst e; rw [pk_us]
          · rw [pk_un e]; exact h3 i (by omega)
      · right
        have : k = n := by omega
        subst this
        exact ⟨(nI k, st), by rw [if_pos (nI_le (Nat.le_refl k) (by omega))], h1, h2, h3⟩) (v := (0, sc)) ⟨nI_0.symm, fun _ _ => rfl, rfl, fun i hi => by omega⟩
  obtain ⟨g, e3, p1, p2, p4⟩ := l1
  have l2 := iter_inv (body := fun v : Int32 × St => l_X6_text_34 (nI r) (nI n) v.1 v.2) (Out := fun g => (∀ k, k ≠ 6 → k ≠ 5 → g.2.1 k = sm.1 k) ∧ g.2.2 = sm.2 ∧ g.2.1 5 = upd (sm.1 5) r (nI n) ∧ (∀ i, i < 60 → g.2.1 6 (60 * r + i) = (32 : Int32).toInt8.toInt32) ∧ ∀ q, q < 4 → q ≠ r → ∀ i, i < 60 → g.2.1 6 (60 * q + i) = sm.1 6 (60 * q + i))
    (fun k v => v.1 = nI k ∧ (∀ q, q ≠ 6 → q ≠ 5 → v.2.1 q = sm.1 q) ∧ v.2.2 = sm.2 ∧ v.2.1 5 = upd (sm.1 5) r (nI n) ∧ (∀ i, i < k → v.2.1 6 (60 * r + i) = (32 : Int32).toInt8.toInt32) ∧ ∀ q, q < 4 → q ≠ r → ∀ i, i < 60 → v.2.1 6 (60 * q + i) = sm.1 6 (60 * q + i)) 60 (by omega) (by
      rintro k ⟨v, st⟩ hk ⟨e, h1, h2, h3, h4, h5⟩
      dsimp only at e h1 h2 h3 h4 h5 ⊢
      subst e
      unfold l_X6_text_34
      rw [ix60]
      by_cases hkn : k < 60
      · left
        refine ⟨hkn, (nI (k + 1), sA st 6 (upd (st.1 6) (60 * r + k) ((32 : Int32).toInt8.toInt32))), ?_, rfl, fun q hq hq2 => by rw [sA_n hq]; exact h1 q hq hq2, h2, by rw [sA_n (by omega)]; exact h3, fun i hi => ?_, fun q hq hqr i hi => ?_⟩
        · rw [n60, if_neg (nI_ge hkn (by omega)), gd_i _ (show 60 * r + k < 240 by omega) (by omega), ls_e, nI_clamp (show 60 * r + k < 2 ^ 31 by omega), nI_1]
        · dsimp only
          rw [sA_k]
          by_cases e : i = k
          · subst e; rw [pk_us]
          · rw [pk_un (by omega)]; exact h4 i (by omega)
        · dsimp only
          rw [sA_k, pk_un (by omega)]
          exact h5 q hq hqr i hi
      · right
        have : k = 60 := by omega
        subst this
        exact ⟨(nI 60, st), by rw [n60, if_pos (nI_le (Nat.le_refl 60) (by omega))], h1, h2, h3, h4, h5⟩) (v := (0, sA sm 5 (upd (sm.1 5) r (nI n)))) ⟨nI_0.symm, fun q _ hq => sA_n hq, rfl, sA_k, fun i hi => by omega, fun q _ _ i _ => by rw [sA_n (by omega)]⟩
  obtain ⟨d, e4, q1, q2, q3, q4, q5⟩ := l2
  rw [e3, gd_i _ hr (by omega), ls_e, nI_clamp (show r < 2 ^ 31 by omega), e4]
  simp only [b_s, gd_i _ hr (show 4 < 2 ^ 31 by omega), ls_e]
  refine ⟨nI n, _, d.2, rfl, rfl, ?_⟩
  refine R_text h r (fun k k1 k2 => by rw [sA_n k1]; exact p1 k k2) hr p2 (fun k h1 h2 => q1 k h2 h1) q2 (fun q hq => by rw [sA_k, pk_un hq, p1 14 (by omega)]) (fun q hq => by rw [q3, pk_un hq]) q5 ⟨by rw [sA_k, q3, pk_us, pk_us], Or.inr ⟨n, hn, by rw [q3, pk_us], fun i hi => by rw [sA_n (by omega), p4 i hi, q4 i (by omega)]⟩⟩
theorem e_tr0 {sc : St} {x : Int32} (e : f_X5_isText x sc = some (0, sc)) : f_X5_textRefusal x sc = some (-1, sc) := by
  unfold f_X5_textRefusal
  rw [e]
  rfl
theorem e_tr1 {sc : St} {r : Nat} (hr : r < 4) (e : f_X5_isText (nI r) sc = some (1, sc)) (a : sc.1 14 r = -1) : f_X5_textRefusal (nI r) sc = f_X5_found 1 sc := by
  unfold f_X5_textRefusal
  rw [e]
  simp only [b_s, b_eta, gd_i _ hr (show 4 < 2 ^ 31 by omega), nI_clamp (show r < 2 ^ 31 by omega), a, z1, zge1, if_false]
theorem e_tr2 {sc : St} {r n : Nat} (hr : r < 4) (hn : n < 2 ^ 31) (e : f_X5_isText (nI r) sc = some (1, sc)) (a : sc.1 14 r = nI n) : f_X5_textRefusal (nI r) sc = some (0, sc) := by
  unfold f_X5_textRefusal
  rw [e]
  simp only [b_s, b_eta, gd_i _ hr (show 4 < 2 ^ 31 by omega), nI_clamp (show r < 2 ^ 31 by omega), a, z1, if_false, if_y (nI_pos' hn)]
theorem s_put {sc sm : St} (h : RR sc sm) (x y z : Int32) : Sim (f_X5_put x y z sc) (f_X6_put x y z sm) := by
  unfold f_X5_put f_X6_put
  rcases t_text h x with ⟨e1, e2⟩ | ⟨r, hr, rfl, e1, e2, ⟨a, b⟩ | ⟨n, hn, a, b, c⟩⟩
  · rw [e_tr0 e1, e2]
    exact ⟨-1, sc, sm, rfl, rfl, h⟩
  · obtain ⟨sc', sm', f1, f2, h'⟩ := s_found h (x := 1) 1 (by omega) (by decide +kernel)
    rw [e_tr1 hr e1 a, f1, e2]
    refine ⟨-3, sc', sm', rfl, ?_, h'⟩
    simp only [b_s, z1, if_false, gd_i _ hr (show 4 < 2 ^ 31 by omega), nI_clamp (show r < 2 ^ 31 by omega), b, zge1, b_eta, f2]
  · rw [e_tr2 hr (by omega) e1 a, e2]
    simp only [b_s, z1, if_false, if_true, gd_i _ hr (show 4 < 2 ^ 31 by omega), nI_clamp (show r < 2 ^ 31 by omega), a, b, b_eta, if_y (nI_pos' (show n < 2 ^ 31 by omega))]
    obtain ⟨sc', sm', f1, f2, h'⟩ := s_found h (x := 2) 2 (by omega) (by decide +kernel)
    rcases t_place (n := n) (by omega) y sm with ⟨i, hi, rfl, e3⟩ | ⟨e3, q | ⟨q1, q2⟩⟩
    · simp only [e3, b_s, z1, if_false, if_n (nI_pos (show i < 2 ^ 31 by omega)), if_y (nI_lt hi (show n < 2 ^ 31 by omega)), ix60, gd_i _ (show i < 60 by omega) (show 60 < 2 ^ 31 by omega), gd_i _ (show 60 * r + i < 240 by omega) (show 240 < 2 ^ 31 by omega), nI_clamp (show i < 2 ^ 31 by omega), nI_clamp (show 60 * r + i < 2 ^ 31 by omega), lw_e, ls_e]
      refine ⟨_, _, _, rfl, by rw [c i hi, Int32.add_comm], ?_⟩
      refine R_text h r (fun k _ k2 => sA_n k2) hr rfl (fun k _ k2 => sA_n k2) rfl (fun q _ => by rw [sA_n (by omega)]) (fun q _ => by rw [sA_n (by omega)]) (fun q hq hqr j hj => by rw [sA_k, pk_un (by omega)]) ⟨by rw [sA_n (by omega), sA_n (by omega), a, b], Or.inr ⟨n, hn, by rw [sA_n (by omega), b], fun j hj => ?_⟩⟩
      rw [sA_k, sA_k]
      by_cases e : j = i
      · subst e; rw [pk_us, pk_us]
      · rw [pk_un e, pk_un (by omega)]; exact c j hj
    · simp only [e3, b_s, if_true, if_pos q, f1, f2]
      exact ⟨-3, sc', sm', rfl, rfl, h'⟩
    · simp only [e3, b_s, if_true, if_neg q1, if_neg q2, f1, f2]
      exact ⟨-3, sc', sm', rfl, rfl, h'⟩
