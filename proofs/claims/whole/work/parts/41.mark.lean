/-! MARK -/
theorem n10 : (10 : Int32) = nI 10 := by decide +kernel
theorem t_souring {N : Nat} {sc sm : St} (hV : VV N sc sm) {p : Nat} (hp : p < N) : ∃ v, f_X2_souringThings (17 + p) (sc.1 15 3) sc = some (v, sc) ∧ f_X6_soursBy (nI p) sm = some (v, sm) := by
  have hp6 : p < 6 := by have := hV.1; omega
  obtain ⟨v0, v1, v2, v3, v4, v5, v6, v7⟩ := hV.2.2.2.2.2 p hp
  refine ⟨smF (fun t => b01 (souS sm (nI t) p)) 6, ?_, ?_⟩
  · unfold f_X2_souringThings
    have l := iter_fold (body := fun v : Int32 × Int32 × St => l_X2_souringThings_4 (17 + p) (sc.1 15 3) v.1 v.2.1 v.2.2) (fun k => (smF (fun t => b01 (souS sm (nI t) p)) k, nI k, sc)) 6 (smF (fun t => b01 (souS sm (nI t) p)) 6, nI 6, sc) (by omega) (fun k hk => by
      dsimp only
      unfold l_X2_souringThings_4
      simp only [n6, if_neg (nI_ge hk (show 6 < 2 ^ 31 by omega)), e_sou, b_s, v0, v3, v4, hV.2.2.2.1, nI_1]
      by_cases q : souS sm (nI k) p = 0
      · have q' := q
        unfold souS at q'
        rw [if_pos q', smF_z (by show b01 _ = 0; unfold b01; rw [if_pos q])]
      · have q' := q
        unfold souS at q'
        rw [if_neg q', sm_1 (by show b01 _ = 1; unfold b01; rw [if_neg q])]) (by
      dsimp only
      unfold l_X2_souringThings_4
      simp only [n6, if_y (nI_le (Nat.le_refl 6) (show 6 < 2 ^ 31 by omega))])
    have l' : iter (fun v : Int32 × Int32 × St => l_X2_souringThings_4 (17 + p) (sc.1 15 3) v.1 v.2.1 v.2.2) fuel (0, 0, sc) = _ := l
    rw [l']
    rfl
  · unfold f_X6_soursBy
    have l := iter_fold (body := fun v : Int32 × Int32 × St => l_X6_soursBy_4 (nI p) v.1 v.2.1 v.2.2) (fun k => (smF (fun t => b01 (souS sm (nI t) p)) k, nI k, sm)) 6 (smF (fun t => b01 (souS sm (nI t) p)) 6, nI 6, sm) (by omega) (fun k hk => by
      dsimp only
      unfold l_X6_soursBy_4
      simp only [n6, if_neg (nI_ge hk (show 6 < 2 ^ 31 by omega)), m_sou hp6, b_s, lw_e, nI_1, add0]
      by_cases q : souS sm (nI k) p = 0
      · have q' := q
        unfold souS at q'
        rw [if_pos q', smF_z (by show b01 _ = 0; unfold b01; rw [if_pos q])]
      · have q' := q
        unfold souS at q'
        rw [if_neg q', sm_1 (by show b01 _ = 1; unfold b01; rw [if_neg q])]) (by
      dsimp only
      unfold l_X6_soursBy_4
      simp only [n6, if_y (nI_le (Nat.le_refl 6) (show 6 < 2 ^ 31 by omega))])
    have l' : iter (fun v : Int32 × Int32 × St => l_X6_soursBy_4 (nI p) v.1 v.2.1 v.2.2) fuel (0, 0, sm) = _ := l
    rw [l']
    rfl
theorem t_others {N : Nat} {sc sm : St} (hV : VV N sc sm) {p : Nat} (hp : p < N) : ∃ v, f_X2_otherMornings (17 + p) 10 sc = some (v, sc) ∧ f_X6_othersOf (nI p) sm = some (v, sm) := by
  have hp6 : p < 6 := by have := hV.1; omega
  obtain ⟨v0, v1, v2, v3, v4, v5, v6, v7⟩ := hV.2.2.2.2.2 p hp
  refine ⟨smF (fun m => if wanF (sm.1 7 p) (sm.1 10 p) (sm.1 11 p) (nI m) = sm.1 11 p then 1 else 0) 10, ?_, ?_⟩
  · unfold f_X2_otherMornings
    have l := iter_fold (body := fun v : Int32 × Int32 × St => l_X2_otherMornings_4 (17 + p) 10 v.1 v.2.1 v.2.2) (fun k => (smF (fun m => if wanF (sm.1 7 p) (sm.1 10 p) (sm.1 11 p) (nI m) = sm.1 11 p then 1 else 0) k, nI k, sc)) 10 (smF (fun m => if wanF (sm.1 7 p) (sm.1 10 p) (sm.1 11 p) (nI m) = sm.1 11 p then 1 else 0) 10, nI 10, sc) (by omega) (fun k hk => by
      dsimp only
      unfold l_X2_otherMornings_4
      simp only [n10, if_neg (nI_ge hk (show 10 < 2 ^ 31 by omega)), e_wan, b_s, v0, v3, v4, nI_1]
      by_cases q : wanF (sm.1 7 p) (sm.1 10 p) (sm.1 11 p) (nI k) = sm.1 11 p
      · rw [if_pos q, sm_1 (by show (if _ then _ else _) = (1 : Int32); rw [if_pos q])]
      · rw [if_neg q, smF_z (by show (if _ then _ else _) = (0 : Int32); rw [if_neg q])]) (by
      dsimp only
      unfold l_X2_otherMornings_4
      simp only [n10, if_y (nI_le (Nat.le_refl 10) (show 10 < 2 ^ 31 by omega))])
    have l' : iter (fun v : Int32 × Int32 × St => l_X2_otherMornings_4 (17 + p) 10 v.1 v.2.1 v.2.2) fuel (0, 0, sc) = _ := l
    rw [l']
    rfl
  · unfold f_X6_othersOf
    have l := iter_fold (body := fun v : Int32 × Int32 × St => l_X6_othersOf_4 (nI p) v.1 v.2.1 v.2.2) (fun k => (smF (fun m => if wanF (sm.1 7 p) (sm.1 10 p) (sm.1 11 p) (nI m) = sm.1 11 p then 1 else 0) k, nI k, sm)) 10 (smF (fun m => if wanF (sm.1 7 p) (sm.1 10 p) (sm.1 11 p) (nI m) = sm.1 11 p then 1 else 0) 10, nI 10, sm) (by omega) (fun k hk => by
      dsimp only
      unfold l_X6_othersOf_4
      simp only [n10, if_neg (nI_ge hk (show 10 < 2 ^ 31 by omega)), m_wan hp6, b_s, gd_i _ hp6 (show 6 < 2 ^ 31 by omega), nI_clamp (show p < 2 ^ 31 by omega), lw_e, nI_1, add0]
      by_cases q : wanF (sm.1 7 p) (sm.1 10 p) (sm.1 11 p) (nI k) = sm.1 11 p
      · rw [if_pos q, sm_1 (by show (if _ then _ else _) = (1 : Int32); rw [if_pos q])]
      · rw [if_neg q, smF_z (by show (if _ then _ else _) = (0 : Int32); rw [if_neg q])]) (by
      dsimp only
      unfold l_X6_othersOf_4
      simp only [n10, if_y (nI_le (Nat.le_refl 10) (show 10 < 2 ^ 31 by omega))])
    have l' : iter (fun v : Int32 × Int32 × St => l_X6_othersOf_4 (nI p) v.1 v.2.1 v.2.2) fuel (0, 0, sm) = _ := l
    rw [l']
    rfl
theorem t_changes {N : Nat} {sc sm : St} (hV : VV N sc sm) {p : Nat} (hp : p < N) : ∃ v, f_X2_morningsToChange (17 + p) (sc.1 15 3) sc = some (v, sc) ∧ f_X6_changesIn (nI p) sm = some (v, sm) := by
  have hp6 : p < 6 := by have := hV.1; omega
  obtain ⟨v0, v1, v2, v3, v4, v5, v6, v7⟩ := hV.2.2.2.2.2 p hp
  unfold f_X2_morningsToChange f_X6_changesIn
  obtain ⟨g, g', i1, i2, ho⟩ := iter_two (body := fun v : Int32 × St => l_X2_morningsToChange_2 (17 + p) (sc.1 15 3) v.1 v.2) (body' := fun v : Int32 × St => l_X6_changesIn_2 (nI p) v.1 v.2)
    (Out := fun g g' => (∃ r, g = .inl (r, sc) ∧ g' = .inl (r, sm)) ∨ ∃ r, g = .inr (r, sc) ∧ g' = .inr (r, sm))
    (fun k v v' => v = (nI (1 + k), sc) ∧ v' = (nI (1 + k), sm)) 9 (by omega) (by
      rintro k v v' hk ⟨rfl, rfl⟩
      dsimp only
      unfold l_X2_morningsToChange_2 l_X6_changesIn_2
      rw [n10, show (9 : Int32) = nI 9 by decide +kernel]
      by_cases hkn : k < 9
      · simp only [if_n (nI_nlt (show 1 + k ≤ 9 by omega) (show 9 < 2 ^ 31 by omega)), if_neg (nI_ge (show 1 + k < 10 by omega) (show 10 < 2 ^ 31 by omega)), e_wan, m_wan hp6, m_now hp6, gd_t _ in12, cl12, b_s, v0, v3, v4, hV.2.2.2.1, nI_1]
        by_cases hw : wanF (sm.1 7 p) (sm.1 10 p) (sm.1 11 p) (sm.1 14 12 + nI (1 + k)) = wanF (sm.1 7 p) (sm.1 10 p) (sm.1 11 p) (sm.1 14 12)
        · left
          simp only [if_pos hw]
          exact ⟨hkn, _, _, rfl, rfl, rfl, rfl⟩
        · right
          simp only [if_neg hw]
          exact ⟨_, _, rfl, rfl, Or.inl ⟨_, rfl, rfl⟩⟩
      · right
        rw [if_pos (nI_lt (show 9 < 1 + k by omega) (by omega)), if_pos (nI_le (show 10 ≤ 1 + k by omega) (by omega))]
        exact ⟨_, _, rfl, rfl, Or.inr ⟨_, rfl, rfl⟩⟩) (v := (1, sc)) (v' := (1, sm)) ⟨by rw [show nI (1 + 0) = 1 by decide +kernel], by rw [show nI (1 + 0) = 1 by decide +kernel]⟩
  rw [i1, i2]
  rcases ho with ⟨r, rfl, rfl⟩ | ⟨r, rfl, rfl⟩
  · exact ⟨r, rfl, rfl⟩
  · exact ⟨-9, rfl, rfl⟩
/-! how many others look like one -/
theorem nS_congr {f g : Nat → Nat} : ∀ k, (∀ i, i < k → f i = g i) → nS f k = nS g k
  | 0, _ => rfl
  | k + 1, h => by
    show nS f k + f k = nS g k + g k
    rw [nS_congr k (fun i hi => h i (by omega)), h k (by omega)]
theorem nS_tail {f : Nat → Nat} {N : Nat} : ∀ d, (∀ i, N ≤ i → f i = 0) → nS f (N + d) = nS f N
  | 0, _ => rfl
  | d + 1, h => by
    show nS f (N + d) + f (N + d) = _
    rw [nS_tail d h, h (N + d) (by omega)]
    rfl
theorem pop_nS (s : Nat) : popN s = nS (fun q => if s.testBit q = true then 1 else 0) 6 := by
  show _ = 0 + _ + _ + _ + _ + _ + _
  unfold popN
  dsimp only
  omega
theorem pop_sN {f : Nat → Bool} {N : Nat} (hN : N ≤ 6) : popN (sN f N) = nS (fun q => if f q = true then 1 else 0) N := by
  rw [pop_nS]
  obtain ⟨d, hd⟩ : ∃ d, 6 = N + d := ⟨6 - N, by omega⟩
  rw [hd, nS_tail d (fun i hi => by rw [sN_bit]; simp [show ¬ i < N by omega])]
  exact nS_congr N (fun i hi => by rw [sN_bit]; simp [hi])
theorem nS_one {f : Nat → Nat} {p : Nat} (hf : f p = 1) : ∀ k, nS f k = nS (fun q => if q = p then 0 else f q) k + (if p < k then 1 else 0)
  | 0 => rfl
  | k + 1 => by
    show nS f k + f k = nS (fun q => if q = p then 0 else f q) k + (if k = p then 0 else f k) + _
    rw [nS_one hf k]
    by_cases e : k = p
    · subst e
      rw [if_neg (Nat.lt_irrefl k), if_pos (Nat.lt_succ_self k), if_pos rfl, hf]
    · rw [if_neg e]
      by_cases h : p < k
      · rw [if_pos h, if_pos (by omega)]; omega
      · rw [if_neg h, if_neg (by omega)]; omega
theorem sm_nS {f : Nat → Int32} {g : Nat → Nat} : ∀ k, (∀ i, i < k → f i = nI (g i)) → smF f k = nI (nS g k)
  | 0, _ => nI_0.symm
  | k + 1, h => by
    show smF f k + f k = nI (nS g k + g k)
    rw [sm_nS k (fun i hi => h i (by omega)), h k (by omega), nI_add]
theorem t_like {N : Nat} {sc sm : St} (hV : VV N sc sm) (hB : VB N sm) {p : Nat} (hp : p < N) : ∃ v, ((f_X3_thoseWhoLook (sc.1 (17 + p) 1) (sc.1 (17 + p) 2) sc).bind (fun q15 => ((f_J6_bitCount_0f7a4 q15.1 q15.2).bind (fun q16 => (some (q16.1 - (1 : Int32), q16.2)))))) = some (v, sc) ∧ f_X6_looksLike (nI p) sm = some (v, sm) := by
  have hN := hV.1
  have hp6 : p < 6 := by omega
  obtain ⟨v0, v1, v2, v3, v4, v5, v6, v7⟩ := hV.2.2.2.2.2 p hp
  obtain ⟨⟨a, ha, ea⟩, ⟨b, hb, eb⟩, -⟩ := hB p hp
  have h9 : ∀ z : Nat, z < 4 → ¬ nI z = -9 := by decide +kernel
  have hl : ∀ q, lookF sm (sm.1 8 p) (sm.1 9 p) q = decide (sm.1 8 q = sm.1 8 p ∧ sm.1 9 q = sm.1 9 p) := by
    intro q
    unfold lookF
    have n1 : ¬ sm.1 8 p = -9 := by rw [ea]; exact h9 a ha
    have n2 : ¬ sm.1 9 p = -9 := by rw [eb]; exact h9 b hb
    simp [n1, n2]
  have hpp : (if lookF sm (sm.1 8 p) (sm.1 9 p) p = true then 1 else 0) = 1 := by rw [hl]; simp
  refine ⟨nI (nS (fun q => if q = p then 0 else if lookF sm (sm.1 8 p) (sm.1 9 p) q = true then 1 else 0) N), ?_, ?_⟩
  · rw [e_look hV, b_s]
    dsimp only
    rw [v1, v2, e_bc (sN_64 hN), b_s]
    dsimp only
    rw [pop_sN hN, nS_one (f := fun q => if lookF sm (sm.1 8 p) (sm.1 9 p) q = true then 1 else 0) hpp N, if_pos hp, nI_pred]
  · unfold f_X6_looksLike
    have l := iter_fold (body := fun v : Int32 × Int32 × St => l_X6_looksLike_4 (nI p) v.1 v.2.1 v.2.2) (fun k => (nI (nS (fun q => if q = p then 0 else if lookF sm (sm.1 8 p) (sm.1 9 p) q = true then 1 else 0) k), nI k, sm)) N (nI (nS (fun q => if q = p then 0 else if lookF sm (sm.1 8 p) (sm.1 9 p) q = true then 1 else 0) N), nI N, sm) (by omega) (fun k hk => by
      dsimp only
      unfold l_X6_looksLike_4
      show _ = some (Sum.inl (nI (nS (fun q => if q = p then 0 else if lookF sm (sm.1 8 p) (sm.1 9 p) q = true then 1 else 0) k + (if k = p then 0 else if lookF sm (sm.1 8 p) (sm.1 9 p) k = true then 1 else 0)), nI (k + 1), sm))
      simp only [hV.2.2.1, if_neg (nI_ge hk (show N < 2 ^ 31 by omega)), gd_i _ (show k < 6 by omega) (show 6 < 2 ^ 31 by omega), gd_i _ hp6 (show 6 < 2 ^ 31 by omega), nI_clamp (show k < 2 ^ 31 by omega), nI_clamp (show p < 2 ^ 31 by omega), lw_e, nI_1, add0, hl, decide_eq_true_eq]
      by_cases e : k = p
      · rw [if_pos (by rw [e]), if_pos e]
        rfl
      · rw [if_neg (fun z => e ((nI_eq (by omega) (by omega)).mp z)), if_neg e]
        by_cases h1 : sm.1 8 k = sm.1 8 p
        · by_cases h2 : sm.1 9 k = sm.1 9 p
          · rw [if_pos h1, if_pos h2, if_pos ⟨h1, h2⟩]
          · rw [if_pos h1, if_neg h2, if_neg (fun z => h2 z.2)]
            rfl
        · rw [if_neg h1, if_neg (fun z => h1 z.1)]
          rfl) (by
      dsimp only
      unfold l_X6_looksLike_4
      simp only [hV.2.2.1, if_y (nI_le (Nat.le_refl N) (show N < 2 ^ 31 by omega))])
    have l' : iter (fun v : Int32 × Int32 × St => l_X6_looksLike_4 (nI p) v.1 v.2.1 v.2.2) fuel (0, 0, sm) = _ := l
    rw [l']
    rfl
theorem s_mark {sc sm : St} (h : RR sc sm) (x w : Int32) : Sim (f_X5_mark x w sc) (f_X6_mark x w sm) := by
  obtain ⟨N, hV, hB⟩ := R_V h
  unfold f_X5_mark f_X6_mark
  rcases (t_reg hV x).symm with ⟨e1, e2⟩ | ⟨p, hp, rfl, e1, e2⟩
  · simp only [e1, e2, b_s, if_true]
    exact ⟨-1, sc, sm, rfl, rfl, h⟩
  have hp6 : p < 6 := by have := hV.1; omega
  obtain ⟨v0, v1, v2, v3, v4, v5, v6, v7⟩ := hV.2.2.2.2.2 p hp
  simp only [e1, e2, b_s, z1, if_false, m_in]
  by_cases hw0 : w ≤ 0
  · have : w < 1 := Int32.lt_iff_toInt_lt.mpr (by
      have := Int32.le_iff_toInt_le.mp hw0
      show w.toInt < (1 : Int)
      have e : (0 : Int32).toInt = 0 := by decide
      omega)
    simp only [if_pos hw0, if_pos this, if_true]
    exact ⟨-1, sc, sm, rfl, rfl, h⟩
  have hw1 : ¬ w < 1 := fun z => hw0 (Int32.le_iff_toInt_le.mpr (by
    have := Int32.lt_iff_toInt_lt.mp z
    have e1 : (1 : Int32).toInt = 1 := by decide
    have e : (0 : Int32).toInt = 0 := by decide
    omega))
  by_cases hw6 : ¬ w < 6
  · have : (5 : Int32) < w := Int32.lt_iff_toInt_lt.mpr (by
      have := Int32.le_iff_toInt_le.mp (Int32.not_lt.mp hw6)
      have e6 : (6 : Int32).toInt = 6 := by decide
      have e : (5 : Int32).toInt = 5 := by decide
      omega)
    simp only [if_neg hw0, if_neg hw1, if_neg hw6, if_pos this, if_true]
    exact ⟨-1, sc, sm, rfl, rfl, h⟩
  replace hw6 := Decidable.not_not.mp hw6
  have hw5 : ¬ (5 : Int32) < w := fun z => by
    have a := Int32.lt_iff_toInt_lt.mp z
    have b := Int32.lt_iff_toInt_lt.mp hw6
    have e6 : (6 : Int32).toInt = 6 := by decide
    have e : (5 : Int32).toInt = 5 := by decide
    omega
  simp only [if_neg hw0, if_neg hw1, if_pos hw6, if_neg hw5, z1, if_false, gd_i _ hp6 (show 6 < 2 ^ 31 by omega), nI_clamp (show p < 2 ^ 31 by omega), lw_e, b_eta]
  obtain ⟨sc', sm', f1, f2, h'⟩ := s_found h (x := 3) 3 (by omega) (by decide +kernel)
  obtain ⟨a1, a2, a3⟩ := t_souring hV hp
  obtain ⟨c1, c2, c3⟩ := t_changes hV hp
  obtain ⟨d1, d2, d3⟩ := t_like hV hB hp
  obtain ⟨o1, o2, o3⟩ := t_others hV hp
  obtain ⟨k, hk, rfl⟩ : ∃ k, k ≤ 5 ∧ w = nI k := nI_of2 (M := 5) (n := 5) (by decide +kernel) (fun z => hw0 (Int32.le_of_lt z)) (Int32.not_lt.mp hw5)
  have hk0 : k ≠ 0 := fun z => hw0 (by rw [z]; decide +kernel)
  clear e1 e2 hw0 hw1 hw6 hw5
  unfold f_X2_isOf
  rw [v0]
  rcases (show k = 1 ∨ k = 2 ∨ k = 3 ∨ k = 4 ∨ k = 5 by omega) with rfl | rfl | rfl | rfl | rfl
  · rw [show nI 1 = 1 by decide +kernel]
    by_cases q1 : sm.1 7 p = 1
    · simp only [if_pos q1, b_s, z1, if_false, if_true, a2, a3]
      exact ⟨a1, sc, sm, rfl, rfl, h⟩
    · by_cases q4 : sm.1 7 p = 4
      · simp only [if_neg q1, if_pos q4, z1, if_false, if_true, b_s, a2, a3]
        exact ⟨a1, sc, sm, rfl, rfl, h⟩
      · by_cases q5 : sm.1 7 p = 5
        · simp [q5, f1, f2]
          exact ⟨-3, sc', sm', rfl, rfl, h'⟩
        · simp [q1, q4, q5, f1, f2]
          exact ⟨-3, sc', sm', rfl, rfl, h'⟩
  · rw [show nI 2 = 2 by decide +kernel]
    by_cases q1 : sm.1 7 p = 2
    · simp [q1, c2, c3]
      exact ⟨c1, sc, sm, rfl, rfl, h⟩
    · by_cases q4 : sm.1 7 p = 4
      · simp [q4, f1, f2]
        exact ⟨-3, sc', sm', rfl, rfl, h'⟩
      · by_cases q5 : sm.1 7 p = 5
        · simp [q5, c2, c3]
          exact ⟨c1, sc, sm, rfl, rfl, h⟩
        · simp [q1, q4, q5, f1, f2]
          exact ⟨-3, sc', sm', rfl, rfl, h'⟩
  · rw [show nI 3 = 3 by decide +kernel]
    by_cases q1 : sm.1 7 p = 3
    · simp [q1, e_wro, v0, v6, m_ask hp6]
      unfold wroF
      rw [if_pos rfl]
      exact ⟨_, sc, sm, rfl, rfl, h⟩
    · by_cases q4 : sm.1 7 p = 4
      · simp [q4, f1, f2]
        exact ⟨-3, sc', sm', rfl, rfl, h'⟩
      · by_cases q5 : sm.1 7 p = 5
        · simp [q5, f1, f2]
          exact ⟨-3, sc', sm', rfl, rfl, h'⟩
        · simp [q1, q4, q5, f1, f2]
          exact ⟨-3, sc', sm', rfl, rfl, h'⟩
  · rw [show nI 4 = 4 by decide +kernel]
    by_cases q1 : sm.1 7 p = 4
    · simp only [q1, if_true, b_s, z1, if_false, show ((4 : Int32) = 1) = False from eq_false (by decide), show ((4 : Int32) = 2) = False from eq_false (by decide), show ((4 : Int32) = 3) = False from eq_false (by decide), d2, d3]
      exact ⟨d1, sc, sm, rfl, rfl, h⟩
    · by_cases q5 : sm.1 7 p = 5
      · simp [q5, f1, f2]
        exact ⟨-3, sc', sm', rfl, rfl, h'⟩
      · simp [q1, q5, f1, f2]
        exact ⟨-3, sc', sm', rfl, rfl, h'⟩
  · rw [show nI 5 = 5 by decide +kernel]
    by_cases q1 : sm.1 7 p = 5
    · simp [q1, o2, o3]
      exact ⟨o1, sc, sm, rfl, rfl, h⟩
    · by_cases q4 : sm.1 7 p = 4
      · simp [q4, f1, f2]
        exact ⟨-3, sc', sm', rfl, rfl, h'⟩
      · simp [q1, q4, f1, f2]
        exact ⟨-3, sc', sm', rfl, rfl, h'⟩
