/-! DIGEST: the class's number in a local, the reference's in long 2 -/
def DG (sc : St) (h : Int64) (m : St) : Prop := RR sc m ∧ m.2 2 = h
theorem dg_mix {sc m : St} {h : Int64} (q : DG sc h m) (x : Int64) : ∃ m', f_X6_mix x m = some m' ∧ DG sc (31 * h + x) m' := by
  refine ⟨sL m 2 (31 * h + x), by unfold f_X6_mix; rw [ls_e, q.2], R_F q.1 (fun _ _ _ => rfl) (fun _ _ _ _ _ => rfl) rfl rfl ?_, ?_⟩
  · obtain ⟨a, b, c, d, e⟩ := q.1.2.2.2
    exact ⟨a, b, c, by rw [d]; rfl, by rw [e]; rfl⟩
  · show vp_updL m.2 2 (31 * h + x) 2 = _
    unfold vp_updL
    rw [if_pos rfl]
theorem dg_loop {sc : St} {body : Int64 × Int32 × St → Option ((Int64 × Int32 × St) ⊕ (Int64 × Int32 × St))} {body' : Int32 × St → Option ((Int32 × St) ⊕ (Int32 × St))} (N : Nat) (hN : N < 5000)
    (hs : ∀ k h m, k < N → DG sc h m → ∃ h' m', body (h, nI k, sc) = some (.inl (h', nI (k + 1), sc)) ∧ body' (nI k, m) = some (.inl (nI (k + 1), m')) ∧ DG sc h' m')
    (he : ∀ h m, DG sc h m → body (h, nI N, sc) = some (.inr (h, nI N, sc)) ∧ body' (nI N, m) = some (.inr (nI N, m)))
    {h : Int64} {m : St} (q : DG sc h m) : ∃ h' m', iter body fuel (h, 0, sc) = some (h', nI N, sc) ∧ iter body' fuel (0, m) = some (nI N, m') ∧ DG sc h' m' := by
  obtain ⟨g, g', e1, e2, h', m', r1, r2, r3⟩ := iter_two (body := body) (body' := body') (Out := fun g g' => ∃ h' m', g = (h', nI N, sc) ∧ g' = (nI N, m') ∧ DG sc h' m') (fun k v v' => ∃ h m, v = (h, nI k, sc) ∧ v' = (nI k, m) ∧ DG sc h m) N hN (fun k v v' hk hS => by
    obtain ⟨h, m, rfl, rfl, q⟩ := hS
    by_cases hkN : k < N
    · obtain ⟨h', m', r1, r2, r3⟩ := hs k h m hkN q
      exact Or.inl ⟨hkN, _, _, r1, r2, h', m', rfl, rfl, r3⟩
    · have : k = N := by omega
      subst this
      obtain ⟨r1, r2⟩ := he h m q
      exact Or.inr ⟨_, _, r1, r2, h, m, rfl, rfl, q⟩) (v := (h, 0, sc)) (v' := (0, m)) ⟨h, m, rfl, rfl, q⟩
  exact ⟨h', m', by rw [e1, r1], by rw [e2, r2], r3⟩
theorem m1L : ((-1 : Int32).toInt64) = (-1 : Int64) := by decide
theorem s_digest {sc sm : St} (h : RR sc sm) : SimL (f_X5_digest sc) (f_X6_digest sm) := by
  have n3 : (3 : Int32) = nI 3 := by decide +kernel
  have n4 : (4 : Int32) = nI 4 := by decide +kernel
  have n9 : (9 : Int32) = nI 9 := by decide +kernel
  have n10 : (10 : Int32) = nI 10 := by decide +kernel
  have d0 : DG sc 17 (sL sm 2 17) := by
    refine ⟨R_F h (fun _ _ _ => rfl) (fun _ _ _ _ _ => rfl) rfl rfl ?_, ?_⟩
    · obtain ⟨a, b, c, d, e⟩ := h.2.2.2
      exact ⟨a, b, c, by rw [d]; rfl, by rw [e]; rfl⟩
    · show vp_updL sm.2 2 17 2 = _
      unfold vp_updL
      rw [if_pos rfl]
  unfold f_X5_digest f_X6_digest
  rw [ls_e]
  obtain ⟨h1, m1, a1, b1, d1⟩ := dg_loop (body := fun v : Int64 × Int32 × St => l_X5_digest_6 v.1 v.2.1 v.2.2) (body' := fun v : Int32 × St => l_X6_digest_9 v.1 v.2) 10 (by omega) (fun k h m hk q => by
    obtain ⟨v, e1, e2⟩ := t_count q.1 (show k ≤ 9 by omega)
    obtain ⟨m', f1, f2⟩ := dg_mix q v.toInt64
    refine ⟨_, m', ?_, ?_, f2⟩
    · dsimp only
      unfold l_X5_digest_6
      rw [n10, if_neg (nI_ge hk (by omega)), e1, b_s, lw_e, nI_1]
    · dsimp only
      unfold l_X6_digest_9
      rw [n10, if_neg (nI_ge hk (by omega)), e2, b_s]
      dsimp only
      rw [f1, b_s, nI_1]) (fun h m q => by
    constructor
    · dsimp only
      unfold l_X5_digest_6
      rw [n10, if_pos (nI_le (Nat.le_refl 10) (by omega))]
    · dsimp only
      unfold l_X6_digest_9
      rw [n10, if_pos (nI_le (Nat.le_refl 10) (by omega))]) d0
  rw [a1, b1, b_s, b_s]
  dsimp only
  unfold f_X6_mixShop
  obtain ⟨N, hVc, -⟩ := R_V h
  have hN := hVc.1
  obtain ⟨h2, m2, a2, b2, d2⟩ := dg_loop (body := fun v : Int64 × Int32 × St => l_X5_digest_33 v.1 v.2.1 v.2.2) (body' := fun v : Int32 × St => l_X6_mixShop_2 v.1 v.2) N (by omega) (fun k h m hk q => by
    obtain ⟨N', hV, -⟩ := R_V q.1
    have hNN : N' = N := by
      have : nI N' = nI N := by rw [← hV.2.1, hVc.2.1]
      exact (nI_eq (by have := hV.1; omega) (by omega)).mp this
    subst hNN
    obtain ⟨h', m', i1, i2, i3⟩ := dg_loop (body := fun v : Int64 × Int32 × St => l_X5_digest_47 (nI k) v.1 v.2.1 v.2.2) (body' := fun v : Int32 × St => l_X6_mixShop_12 (nI k) v.1 v.2) 9 (by omega) (fun j h m hj q => by
      obtain ⟨N2, hV2, -⟩ := R_V q.1
      have hNN : N2 = N' := by
        have : nI N2 = nI N' := by rw [← hV2.2.1, hVc.2.1]
        exact (nI_eq (by have := hV2.1; omega) (by omega)).mp this
      subst hNN
      obtain ⟨v, e1, e2⟩ := t_fact hV2 hk (nI j)
      obtain ⟨m', f1, f2⟩ := dg_mix q v.toInt64
      refine ⟨_, m', ?_, ?_, f2⟩
      · dsimp only
        unfold l_X5_digest_47
        rw [n9, if_neg (nI_ge hj (by omega)), e1, b_s, lw_e, nI_1]
      · dsimp only
        unfold l_X6_mixShop_12
        rw [n9, if_neg (nI_ge hj (by omega)), e2, b_s]
        dsimp only
        rw [f1, b_s, nI_1]) (fun h m q => by
      constructor
      · dsimp only
        unfold l_X5_digest_47
        rw [n9, if_pos (nI_le (Nat.le_refl 9) (by omega))]
      · dsimp only
        unfold l_X6_mixShop_12
        rw [n9, if_pos (nI_le (Nat.le_refl 9) (by omega))]) q
    refine ⟨h', m', ?_, ?_, i3⟩
    · dsimp only
      unfold l_X5_digest_33
      rw [hVc.2.1, if_neg (nI_ge hk (by omega)), i1, b_s, nI_1]
    · dsimp only
      unfold l_X6_mixShop_2
      rw [hV.2.2.1, if_neg (nI_ge hk (by omega)), i2, b_s, nI_1]) (fun h m q => by
    obtain ⟨N', hV, -⟩ := R_V q.1
    have hNN : N' = N := by
      have : nI N' = nI N := by rw [← hV.2.1, hVc.2.1]
      exact (nI_eq (by have := hV.1; omega) (by omega)).mp this
    subst hNN
    constructor
    · dsimp only
      unfold l_X5_digest_33
      rw [hVc.2.1, if_pos (nI_le (Nat.le_refl _) (by omega))]
    · dsimp only
      unfold l_X6_mixShop_2
      rw [hV.2.2.1, if_pos (nI_le (Nat.le_refl _) (by omega))]) d1
  rw [a2, b2, b_s, b_s]
  dsimp only
  obtain ⟨h3, m3, a3, b3, d3⟩ := dg_loop (body := fun v : Int64 × Int32 × St => l_X5_digest_86 v.1 v.2.1 v.2.2) (body' := fun v : Int32 × St => l_X6_mixShop_43 v.1 v.2) 3 (by omega) (fun k h m hk q => by
    obtain ⟨N', -, -, -, hK⟩ := q.1.1
    obtain ⟨k1, k2⟩ := hK k hk
    dsimp only
    unfold l_X5_digest_86 l_X6_mixShop_43
    simp only [n3, if_neg (nI_ge hk (show 3 < 2 ^ 31 by omega)), gd_i _ hk (show 3 < 2 ^ 31 by omega), nI_clamp (show k < 2 ^ 31 by omega), lw_e, nI_1, k1, m1L]
    by_cases z : m.1 16 k = 0
    · obtain ⟨m', f1, f2⟩ := dg_mix q (-1)
      simp only [if_pos z]
      exact ⟨_, m', rfl, by rw [f1, b_s], f2⟩
    · rcases k2 with k2 | ⟨-, T, hT⟩
      · exact absurd k2 z
      · obtain ⟨m', f1, f2⟩ := dg_mix q (m.1 17 k).toInt64
        simp only [if_neg z]
        refine ⟨_, m', ?_, by rw [f1, b_s], f2⟩
        rw [show 24 + k + 6 = 30 + k by omega, hT.2.1, hT.2.2.1]) (fun h m q => by
    constructor
    · dsimp only
      unfold l_X5_digest_86
      rw [n3, if_pos (nI_le (Nat.le_refl 3) (by omega))]
    · dsimp only
      unfold l_X6_mixShop_43
      rw [n3, if_pos (nI_le (Nat.le_refl 3) (by omega))]) d2
  rw [a3, b3, b_s, b_s]
  dsimp only
  rw [b_s]
  obtain ⟨h4, m4, a4, b4, d4⟩ := dg_loop (body := fun v : Int64 × Int32 × St => l_X5_digest_135 v.1 v.2.1 v.2.2) (body' := fun v : Int32 × St => l_X6_digest_37 v.1 v.2) 6 (by omega) (fun k h m hk q => by
    dsimp only
    unfold l_X5_digest_135 l_X6_digest_37
    simp only [n6, if_neg (nI_ge hk (show 6 < 2 ^ 31 by omega)), gd_i _ hk (show 6 < 2 ^ 31 by omega), nI_clamp (show k < 2 ^ 31 by omega), lw_e, nI_1]
    rw [(q.1.2.1 k hk).1]
    obtain ⟨m', f1, f2⟩ := dg_mix q (m.1 2 k).toInt64
    rw [f1, b_s]
    have hh : ∀ n, sc.1 8 k = nI n → n ≤ 40 → ∃ h' m'', iter (fun v : Int64 × Int32 × St => l_X5_digest_158 (nI k) v.1 v.2.1 v.2.2) fuel (31 * h + (m.1 2 k).toInt64, 0, sc) = some (h', nI n, sc) ∧ iter (fun v : Int32 × St => l_X6_digest_56 (nI k) v.1 v.2) fuel (0, m') = some (nI n, m'') ∧ DG sc h' m'' := fun n hn hn4 => by
      refine dg_loop n (by omega) (fun j h m hj q => ?_) (fun h m q => ?_) f2
      · obtain ⟨g1, g2⟩ := q.1.2.1 k hk
        dsimp only
        unfold l_X5_digest_158 l_X6_digest_56 f_X6_rowAt
        rcases g2 with g2 | ⟨n', g2, g3, g4⟩
        · rw [g2, hn] at g1
          exact absurd (g1.symm ▸ nI_pos (show n < 2 ^ 31 by omega)) (by decide)
        · have : n' = n := (nI_eq (by omega) (by omega)).mp (by rw [← g3, ← g1, hn])
          subst this
          obtain ⟨m', f1, f2⟩ := dg_mix q (m.1 3 (40 * k + j)).toInt64
          simp only [gd_i _ hk (show 6 < 2 ^ 31 by omega), gd_i _ (show j < 40 by omega) (show 40 < 2 ^ 31 by omega), nI_clamp (show k < 2 ^ 31 by omega), nI_clamp (show j < 2 ^ 31 by omega), hn, g3, if_neg (nI_ge hj (show n' < 2 ^ 31 by omega)), lw_e, nI_1, ix40, gd_i _ (show 40 * k + j < 240 by omega) (show 240 < 2 ^ 31 by omega), nI_clamp (show 40 * k + j < 2 ^ 31 by omega), b_s, f1]
          exact ⟨_, m', rfl, rfl, by rw [g4 j hj]; exact f2⟩
      · obtain ⟨g1, g2⟩ := q.1.2.1 k hk
        dsimp only
        unfold l_X5_digest_158 l_X6_digest_56
        rw [hn] at g1
        simp only [gd_i _ hk (show 6 < 2 ^ 31 by omega), nI_clamp (show k < 2 ^ 31 by omega), hn, ← g1, if_y (nI_le (Nat.le_refl n) (show n < 2 ^ 31 by omega))]
        exact ⟨trivial, trivial⟩
    obtain ⟨g1, g2⟩ := q.1.2.1 k hk
    rcases g2 with g2 | ⟨n, g2, g3, g4⟩
    · have z1 : iter (fun v : Int64 × Int32 × St => l_X5_digest_158 (nI k) v.1 v.2.1 v.2.2) fuel (31 * h + (m.1 2 k).toInt64, 0, sc) = some (31 * h + (m.1 2 k).toInt64, 0, sc) := by
        refine iter_fold (fun _ => (31 * h + (m.1 2 k).toInt64, 0, sc)) 0 _ (by omega) (fun k hk => by omega) ?_
        dsimp only
        unfold l_X5_digest_158
        rw [gd_i _ hk (by omega), nI_clamp (show k < 2 ^ 31 by omega), g1, g2, if_pos (by decide)]
      have z2 : iter (fun v : Int32 × St => l_X6_digest_56 (nI k) v.1 v.2) fuel (0, m') = some (0, m') := by
        refine iter_fold (fun _ => ((0 : Int32), m')) 0 _ (by omega) (fun k hk => by omega) ?_
        dsimp only
        unfold l_X6_digest_56
        rw [gd_i _ hk (by omega), nI_clamp (show k < 2 ^ 31 by omega), ← (f2.1.2.1 k hk).1, g1, g2, if_pos (by decide)]
      rw [z1, z2]
      exact ⟨_, m', rfl, rfl, f2⟩
    · obtain ⟨h', m'', r1, r2, r3⟩ := hh n (by rw [g1, g3]) g2
      rw [r1, r2]
      exact ⟨_, m'', rfl, rfl, r3⟩) (fun h m q => by
    constructor
    · dsimp only
      unfold l_X5_digest_135
      rw [n6, if_pos (nI_le (Nat.le_refl 6) (by omega))]
    · dsimp only
      unfold l_X6_digest_37
      rw [n6, if_pos (nI_le (Nat.le_refl 6) (by omega))]) d3
  rw [a4, b4, b_s, b_s]
  dsimp only
  obtain ⟨h5, m5, a5, b5, d5⟩ := dg_loop (body := fun v : Int64 × Int32 × St => l_X5_digest_200 v.1 v.2.1 v.2.2) (body' := fun v : Int32 × St => l_X6_digest_91 v.1 v.2) 4 (by omega) (fun k h m hk q => by
    dsimp only
    unfold l_X5_digest_200 l_X6_digest_91
    simp only [n4, if_neg (nI_ge hk (show 4 < 2 ^ 31 by omega)), gd_i _ hk (show 4 < 2 ^ 31 by omega), nI_clamp (show k < 2 ^ 31 by omega), lw_e, nI_1]
    rw [(q.1.2.2.1 k hk).1]
    obtain ⟨m', f1, f2⟩ := dg_mix q (m.1 5 k).toInt64
    rw [f1, b_s]
    have hh : ∀ n, sc.1 14 k = nI n → n ≤ 60 → ∃ h' m'', iter (fun v : Int64 × Int32 × St => l_X5_digest_222 (nI k) v.1 v.2.1 v.2.2) fuel (31 * h + (m.1 5 k).toInt64, 0, sc) = some (h', nI n, sc) ∧ iter (fun v : Int32 × St => l_X6_digest_109 (nI k) v.1 v.2) fuel (0, m') = some (nI n, m'') ∧ DG sc h' m'' := fun n hn hn4 => by
      refine dg_loop n (by omega) (fun j h m hj q => ?_) (fun h m q => ?_) f2
      · obtain ⟨g1, g2⟩ := q.1.2.2.1 k hk
        dsimp only
        unfold l_X5_digest_222 l_X6_digest_109 f_X6_byteAt
        rcases g2 with g2 | ⟨n', g2, g3, g4⟩
        · rw [g2, hn] at g1
          exact absurd (g1.symm ▸ nI_pos (show n < 2 ^ 31 by omega)) (by decide)
        · have : n' = n := (nI_eq (by omega) (by omega)).mp (by rw [← g3, ← g1, hn])
          subst this
          obtain ⟨m', f1, f2⟩ := dg_mix q (m.1 6 (60 * k + j)).toInt64
          simp only [gd_i _ hk (show 4 < 2 ^ 31 by omega), gd_i _ (show j < 60 by omega) (show 60 < 2 ^ 31 by omega), nI_clamp (show k < 2 ^ 31 by omega), nI_clamp (show j < 2 ^ 31 by omega), hn, g3, if_neg (nI_ge hj (show n' < 2 ^ 31 by omega)), lw_e, nI_1, ix60, gd_i _ (show 60 * k + j < 240 by omega) (show 240 < 2 ^ 31 by omega), nI_clamp (show 60 * k + j < 2 ^ 31 by omega), b_s, f1]
          exact ⟨_, m', rfl, rfl, by rw [g4 j hj]; exact f2⟩
      · obtain ⟨g1, g2⟩ := q.1.2.2.1 k hk
        dsimp only
        unfold l_X5_digest_222 l_X6_digest_109
        rw [hn] at g1
        simp only [gd_i _ hk (show 4 < 2 ^ 31 by omega), nI_clamp (show k < 2 ^ 31 by omega), hn, ← g1, if_y (nI_le (Nat.le_refl n) (show n < 2 ^ 31 by omega))]
        exact ⟨trivial, trivial⟩
    obtain ⟨g1, g2⟩ := q.1.2.2.1 k hk
    rcases g2 with g2 | ⟨n, g2, g3, g4⟩
    · have z1 : iter (fun v : Int64 × Int32 × St => l_X5_digest_222 (nI k) v.1 v.2.1 v.2.2) fuel (31 * h + (m.1 5 k).toInt64, 0, sc) = some (31 * h + (m.1 5 k).toInt64, 0, sc) := by
        refine iter_fold (fun _ => (31 * h + (m.1 5 k).toInt64, 0, sc)) 0 _ (by omega) (fun k hk => by omega) ?_
        dsimp only
        unfold l_X5_digest_222
        rw [gd_i _ hk (by omega), nI_clamp (show k < 2 ^ 31 by omega), g1, g2, if_pos (by decide)]
      have z2 : iter (fun v : Int32 × St => l_X6_digest_109 (nI k) v.1 v.2) fuel (0, m') = some (0, m') := by
        refine iter_fold (fun _ => ((0 : Int32), m')) 0 _ (by omega) (fun k hk => by omega) ?_
        dsimp only
        unfold l_X6_digest_109
        rw [gd_i _ hk (by omega), nI_clamp (show k < 2 ^ 31 by omega), ← (f2.1.2.2.1 k hk).1, g1, g2, if_pos (by decide)]
      rw [z1, z2]
      exact ⟨_, m', rfl, rfl, f2⟩
    · obtain ⟨h', m'', r1, r2, r3⟩ := hh n (by rw [g1, g3]) g2
      rw [r1, r2]
      exact ⟨_, m'', rfl, rfl, r3⟩) (fun h m q => by
    constructor
    · dsimp only
      unfold l_X5_digest_200
      rw [n4, if_pos (nI_le (Nat.le_refl 4) (by omega))]
    · dsimp only
      unfold l_X6_digest_91
      rw [n4, if_pos (nI_le (Nat.le_refl 4) (by omega))]) d4
  rw [a5, b5, b_s, b_s]
  exact ⟨h5, sc, m5, rfl, by rw [d5.2], d5.1⟩
