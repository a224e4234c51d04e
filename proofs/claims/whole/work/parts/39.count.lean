/-! COUNT -/
theorem smF_0 {f : Nat → Int32} : ∀ k, (∀ i, i < k → f i = 0) → smF f k = 0
  | 0, _ => rfl
  | k + 1, h => by
    show smF f k + f k = 0
    rw [smF_0 k (fun i hi => h i (by omega)), h k (by omega)]
    rfl
theorem sm_as (a : Int32) (f : Nat → Int32) (k : Nat) : a + smF f k + f k = a + smF f (k + 1) := by
  show _ = a + (smF f k + f k)
  rw [Int32.add_assoc]
theorem sm_a0 (a : Int32) (f : Nat → Int32) : a + smF f 0 = a := add0 a
def b01 (x : Int32) : Int32 := if x = 0 then 0 else 1
def c1F (x : Int32) (sm : St) : Nat → Int32 := fun p => if x = 4 then b01 (knoF (sm.1 14 p)) else if x = 6 then b01 (silF (sm.1 7 p)) else if x = 5 then sm.1 14 (6 + p) else 0
def c2F (x : Int32) (sm : St) : Nat → Int32 := fun r => if x = 7 then (if sm.1 2 r < 0 then 0 else 1) else 0
def c3F (x : Int32) (sm : St) : Nat → Int32 := fun r => if x = 8 then (if sm.1 5 r < 0 then 0 else 1) else 0
def c4F (x : Int32) (sm : St) : Nat → Int32 := fun r => if x = 9 then b01 (sm.1 16 r) else 0
theorem cnt1 {N : Nat} {sm : St} (hN : N ≤ 6) (hn : sm.1 0 10 = nI N) (x a : Int32) : iter (fun v : Int32 × Int32 × St => l_X6_counted_4 x v.1 v.2.1 v.2.2) fuel (a, 0, sm) = some (a + smF (c1F x sm) N, nI N, sm) := by
  have l := iter_fold (body := fun v : Int32 × Int32 × St => l_X6_counted_4 x v.1 v.2.1 v.2.2) (fun k => (a + smF (c1F x sm) k, nI k, sm)) N (a + smF (c1F x sm) N, nI N, sm) (by omega) (fun k hk => by
    dsimp only
    rw [← sm_as]
    unfold l_X6_counted_4 c1F b01
    rw [n6, nI_add]
    simp only [hn, if_neg (nI_ge hk (show N < 2 ^ 31 by omega)), m_kno (show k < 6 by omega), m_sil (show k < 6 by omega), b_s, gd_i _ (show 6 + k < 14 by omega) (show 14 < 2 ^ 31 by omega), nI_clamp (show 6 + k < 2 ^ 31 by omega), lw_e, nI_1]
    by_cases h4 : x = 4
    · have h6 : ¬ x = nI 6 := by rw [h4]; decide +kernel
      have h5 : ¬ x = 5 := by rw [h4]; decide
      simp only [if_pos h4, if_neg h6, if_neg h5]
      split <;> rfl
    · by_cases h6 : x = nI 6
      · have h5 : ¬ x = 5 := by rw [h6]; decide +kernel
        simp only [if_neg h4, if_pos h6, if_neg h5]
        split <;> rfl
      · by_cases h5 : x = 5
        · simp only [if_neg h4, if_neg h6, if_pos h5]
        · simp only [if_neg h4, if_neg h6, if_neg h5]) (by
    dsimp only
    unfold l_X6_counted_4
    simp only [hn, if_y (nI_le (Nat.le_refl N) (show N < 2 ^ 31 by omega))])
  have l' : iter (fun v : Int32 × Int32 × St => l_X6_counted_4 x v.1 v.2.1 v.2.2) fuel (a + smF (c1F x sm) 0, 0, sm) = _ := l
  rw [sm_a0] at l'
  exact l'
theorem cnt2 {sm : St} (x a : Int32) : iter (fun v : Int32 × Int32 × St => l_X6_counted_72 x v.1 v.2.1 v.2.2) fuel (a, 0, sm) = some (a + smF (c2F x sm) 6, nI 6, sm) := by
  have l := iter_fold (body := fun v : Int32 × Int32 × St => l_X6_counted_72 x v.1 v.2.1 v.2.2) (fun k => (a + smF (c2F x sm) k, nI k, sm)) 6 (a + smF (c2F x sm) 6, nI 6, sm) (by omega) (fun k hk => by
    dsimp only
    rw [← sm_as]
    unfold l_X6_counted_72 c2F
    simp only [n6, if_neg (nI_ge hk (show 6 < 2 ^ 31 by omega)), gd_i _ hk (show 6 < 2 ^ 31 by omega), nI_clamp (show k < 2 ^ 31 by omega), lw_e, nI_1]
    by_cases h4 : x = 7
    · simp only [if_pos h4]
      split <;> rfl
    · simp only [if_neg h4]) (by
    dsimp only
    unfold l_X6_counted_72
    simp only [n6, if_y (nI_le (Nat.le_refl 6) (show 6 < 2 ^ 31 by omega))])
  have l' : iter (fun v : Int32 × Int32 × St => l_X6_counted_72 x v.1 v.2.1 v.2.2) fuel (a + smF (c2F x sm) 0, 0, sm) = _ := l
  rw [sm_a0] at l'
  exact l'
theorem cnt3 {sm : St} (x a : Int32) : iter (fun v : Int32 × Int32 × St => l_X6_counted_109 x v.1 v.2.1 v.2.2) fuel (a, 0, sm) = some (a + smF (c3F x sm) 4, nI 4, sm) := by
  have n4 : (4 : Int32) = nI 4 := by decide +kernel
  have l := iter_fold (body := fun v : Int32 × Int32 × St => l_X6_counted_109 x v.1 v.2.1 v.2.2) (fun k => (a + smF (c3F x sm) k, nI k, sm)) 4 (a + smF (c3F x sm) 4, nI 4, sm) (by omega) (fun k hk => by
    dsimp only
    rw [← sm_as]
    unfold l_X6_counted_109 c3F
    simp only [n4, if_neg (nI_ge hk (show 4 < 2 ^ 31 by omega)), gd_i _ hk (show 4 < 2 ^ 31 by omega), nI_clamp (show k < 2 ^ 31 by omega), lw_e, nI_1]
    by_cases h4 : x = 8
    · simp only [if_pos h4]
      split <;> rfl
    · simp only [if_neg h4]) (by
    dsimp only
    unfold l_X6_counted_109
    simp only [n4, if_y (nI_le (Nat.le_refl 4) (show 4 < 2 ^ 31 by omega))])
  have l' : iter (fun v : Int32 × Int32 × St => l_X6_counted_109 x v.1 v.2.1 v.2.2) fuel (a + smF (c3F x sm) 0, 0, sm) = _ := l
  rw [sm_a0] at l'
  exact l'
theorem cnt4 {sm : St} (x a : Int32) : iter (fun v : Int32 × Int32 × St => l_X6_counted_145 x v.1 v.2.1 v.2.2) fuel (a, 0, sm) = some (a + smF (c4F x sm) 3, nI 3, sm) := by
  have n3 : (3 : Int32) = nI 3 := by decide +kernel
  have l := iter_fold (body := fun v : Int32 × Int32 × St => l_X6_counted_145 x v.1 v.2.1 v.2.2) (fun k => (a + smF (c4F x sm) k, nI k, sm)) 3 (a + smF (c4F x sm) 3, nI 3, sm) (by omega) (fun k hk => by
    dsimp only
    rw [← sm_as]
    unfold l_X6_counted_145 c4F b01
    simp only [n3, if_neg (nI_ge hk (show 3 < 2 ^ 31 by omega)), gd_i _ hk (show 3 < 2 ^ 31 by omega), nI_clamp (show k < 2 ^ 31 by omega), lw_e, nI_1]
    by_cases h4 : x = 9
    · simp only [if_pos h4]
      split <;> rfl
    · simp only [if_neg h4]) (by
    dsimp only
    unfold l_X6_counted_145
    simp only [n3, if_y (nI_le (Nat.le_refl 3) (show 3 < 2 ^ 31 by omega))])
  have l' : iter (fun v : Int32 × Int32 × St => l_X6_counted_145 x v.1 v.2.1 v.2.2) fuel (a + smF (c4F x sm) 0, 0, sm) = _ := l
  rw [sm_a0] at l'
  exact l'
theorem m_counted {N : Nat} {sm : St} (hN : N ≤ 6) (hn : sm.1 0 10 = nI N) (x : Int32) : f_X6_counted x sm = some (if x = 0 then nI N else if x = 1 then sm.1 14 12 else if x = 2 then sm.1 14 13 else if x = 3 then sm.1 0 21 else 0 + smF (c1F x sm) N + smF (c2F x sm) 6 + smF (c3F x sm) 4 + smF (c4F x sm) 3, sm) := by
  unfold f_X6_counted
  rw [cnt1 hN hn, b_s]
  dsimp only
  rw [cnt2, b_s]
  dsimp only
  rw [cnt3, b_s]
  dsimp only
  rw [cnt4, b_s]
  dsimp only
  rw [gd_t _ in12, gd_t _ in13, cl12, cl13, hn]
  split
  · rfl
  · split
    · rfl
    · split
      · rfl
      · split <;> rfl
/-! the class's counts -/
theorem sm_1 {f : Nat → Int32} {k : Nat} (h : f k = 1) : smF f k + 1 = smF f (k + 1) := by
  show _ = smF f k + f k
  rw [h]
theorem e_known {N : Nat} {sc sm : St} (hV : VV N sc sm) : f_X3_knownOnes sc = some (smF (c1F 4 sm) N, sc) := by
  have hN := hV.1
  unfold f_X3_knownOnes
  have l := iter_fold (body := fun v : Int32 × Int32 × St => l_X3_knownOnes_4 v.1 v.2.1 v.2.2) (fun k => (smF (c1F 4 sm) k, nI k, sc)) N (smF (c1F 4 sm) N, nI N, sc) (by omega) (fun k hk => by
    obtain ⟨v0, v1, v2, v3, v4, v5, v6, v7⟩ := hV.2.2.2.2.2 k hk
    dsimp only
    unfold l_X3_knownOnes_4
    simp only [hV.2.1, if_neg (nI_ge hk (show N < 2 ^ 31 by omega)), gd_i _ (show k < 6 by omega) (show 6 < 2 ^ 31 by omega), nI_clamp (show k < 2 ^ 31 by omega), e_kno, b_s, v6, nI_1]
    by_cases h : knoF (sm.1 14 k) = 0
    · rw [if_pos h, smF_z (by unfold c1F b01; simp [h])]
    · rw [if_neg h, sm_1 (by unfold c1F b01; simp [h])]) (by
    dsimp only
    unfold l_X3_knownOnes_4
    simp only [hV.2.1, if_y (nI_le (Nat.le_refl N) (show N < 2 ^ 31 by omega))])
  have l' : iter (fun v : Int32 × Int32 × St => l_X3_knownOnes_4 v.1 v.2.1 v.2.2) fuel (0, 0, sc) = _ := l
  rw [l']
  rfl
theorem e_silents {N : Nat} {sc sm : St} (hV : VV N sc sm) : f_X3_silentOnes sc = some (smF (c1F 6 sm) N, sc) := by
  have hN := hV.1
  unfold f_X3_silentOnes
  have l := iter_fold (body := fun v : Int32 × Int32 × St => l_X3_silentOnes_4 v.1 v.2.1 v.2.2) (fun k => (smF (c1F 6 sm) k, nI k, sc)) N (smF (c1F 6 sm) N, nI N, sc) (by omega) (fun k hk => by
    obtain ⟨v0, v1, v2, v3, v4, v5, v6, v7⟩ := hV.2.2.2.2.2 k hk
    dsimp only
    unfold l_X3_silentOnes_4
    simp only [hV.2.1, if_neg (nI_ge hk (show N < 2 ^ 31 by omega)), gd_i _ (show k < 6 by omega) (show 6 < 2 ^ 31 by omega), nI_clamp (show k < 2 ^ 31 by omega), e_sil, b_s, v0, nI_1]
    by_cases h : silF (sm.1 7 k) = 0
    · rw [if_pos h, smF_z (by unfold c1F b01; simp [h])]
    · rw [if_neg h, sm_1 (by unfold c1F b01; simp [h])]) (by
    dsimp only
    unfold l_X3_silentOnes_4
    simp only [hV.2.1, if_y (nI_le (Nat.le_refl N) (show N < 2 ^ 31 by omega))])
  have l' : iter (fun v : Int32 × Int32 × St => l_X3_silentOnes_4 v.1 v.2.1 v.2.2) fuel (0, 0, sc) = _ := l
  rw [l']
  rfl
theorem e_sours {N : Nat} {sc sm : St} (hV : VV N sc sm) : f_X3_soursOfAll sc = some (smF (c1F 5 sm) N, sc) := by
  have hN := hV.1
  unfold f_X3_soursOfAll
  have l := iter_fold (body := fun v : Int32 × Int32 × St => l_X3_soursOfAll_4 v.1 v.2.1 v.2.2) (fun k => (smF (c1F 5 sm) k, nI k, sc)) N (smF (c1F 5 sm) N, nI N, sc) (by omega) (fun k hk => by
    obtain ⟨v0, v1, v2, v3, v4, v5, v6, v7⟩ := hV.2.2.2.2.2 k hk
    dsimp only
    unfold l_X3_soursOfAll_4
    simp only [hV.2.1, if_neg (nI_ge hk (show N < 2 ^ 31 by omega)), gd_i _ (show k < 6 by omega) (show 6 < 2 ^ 31 by omega), nI_clamp (show k < 2 ^ 31 by omega), lw_e, v7, nI_1]
    rw [← smF_s]
    rfl) (by
    dsimp only
    unfold l_X3_soursOfAll_4
    simp only [hV.2.1, if_y (nI_le (Nat.le_refl N) (show N < 2 ^ 31 by omega))])
  have l' : iter (fun v : Int32 × Int32 × St => l_X3_soursOfAll_4 v.1 v.2.1 v.2.2) fuel (0, 0, sc) = _ := l
  rw [l']
  rfl
theorem e_rowsThere {sc sm : St} (h : RR sc sm) : f_X5_thoseThere_8 sc = some (smF (c2F 7 sm) 6, sc) := by
  unfold f_X5_thoseThere_8
  have l := iter_fold (body := fun v : Int32 × Int32 × St => l_X5_thoseThere_8_10 6 v.1 v.2.1 v.2.2) (fun k => (smF (c2F 7 sm) k, nI k, sc)) 6 (smF (c2F 7 sm) 6, nI 6, sc) (by omega) (fun k hk => by
    have e := (h.2.1 k hk).1
    dsimp only
    unfold l_X5_thoseThere_8_10
    simp only [n6, if_neg (nI_ge hk (show 6 < 2 ^ 31 by omega)), gd_i _ hk (show 6 < 2 ^ 31 by omega), nI_clamp (show k < 2 ^ 31 by omega), lw_e, e, nI_1]
    by_cases q : sm.1 2 k < 0
    · rw [if_pos q, smF_z (by unfold c2F; simp [q])]
    · rw [if_neg q, sm_1 (by unfold c2F; simp [q])]) (by
    dsimp only
    unfold l_X5_thoseThere_8_10
    simp only [n6, if_y (nI_le (Nat.le_refl 6) (show 6 < 2 ^ 31 by omega))])
  have l' : iter (fun v : Int32 × Int32 × St => l_X5_thoseThere_8_10 6 v.1 v.2.1 v.2.2) fuel (0, 0, sc) = _ := l
  rw [l']
  rfl
theorem e_textsThere {sc sm : St} (h : RR sc sm) : f_X5_thoseThere_14 sc = some (smF (c3F 8 sm) 4, sc) := by
  have n4 : (4 : Int32) = nI 4 := by decide +kernel
  unfold f_X5_thoseThere_14
  have l := iter_fold (body := fun v : Int32 × Int32 × St => l_X5_thoseThere_14_10 4 v.1 v.2.1 v.2.2) (fun k => (smF (c3F 8 sm) k, nI k, sc)) 4 (smF (c3F 8 sm) 4, nI 4, sc) (by omega) (fun k hk => by
    have e := (h.2.2.1 k hk).1
    dsimp only
    unfold l_X5_thoseThere_14_10
    simp only [n4, if_neg (nI_ge hk (show 4 < 2 ^ 31 by omega)), gd_i _ hk (show 4 < 2 ^ 31 by omega), nI_clamp (show k < 2 ^ 31 by omega), lw_e, e, nI_1]
    by_cases q : sm.1 5 k < 0
    · rw [if_pos q, smF_z (by unfold c3F; simp [q])]
    · rw [if_neg q, sm_1 (by unfold c3F; simp [q])]) (by
    dsimp only
    unfold l_X5_thoseThere_14_10
    simp only [n4, if_y (nI_le (Nat.le_refl 4) (show 4 < 2 ^ 31 by omega))])
  have l' : iter (fun v : Int32 × Int32 × St => l_X5_thoseThere_14_10 4 v.1 v.2.1 v.2.2) fuel (0, 0, sc) = _ := l
  rw [l']
  rfl
theorem e_kept {sc sm : St} (h : RR sc sm) : f_X5_shopsKept sc = some (smF (c4F 9 sm) 3, sc) := by
  have n3 : (3 : Int32) = nI 3 := by decide +kernel
  obtain ⟨N, -, -, -, hK⟩ := h.1
  unfold f_X5_shopsKept
  have l := iter_fold (body := fun v : Int32 × Int32 × St => l_X5_shopsKept_4 v.1 v.2.1 v.2.2) (fun k => (smF (c4F 9 sm) k, nI k, sc)) 3 (smF (c4F 9 sm) 3, nI 3, sc) (by omega) (fun k hk => by
    have e := (hK k hk).1
    dsimp only
    unfold l_X5_shopsKept_4
    simp only [n3, if_neg (nI_ge hk (show 3 < 2 ^ 31 by omega)), gd_i _ hk (show 3 < 2 ^ 31 by omega), nI_clamp (show k < 2 ^ 31 by omega), e, nI_1]
    by_cases q : sm.1 16 k = 0
    · rw [if_pos q, smF_z (by unfold c4F b01; simp [q])]
    · rw [if_neg q, sm_1 (by unfold c4F b01; simp [q])]) (by
    dsimp only
    unfold l_X5_shopsKept_4
    simp only [n3, if_y (nI_le (Nat.le_refl 3) (show 3 < 2 ^ 31 by omega))])
  have l' : iter (fun v : Int32 × Int32 × St => l_X5_shopsKept_4 v.1 v.2.1 v.2.2) fuel (0, 0, sc) = _ := l
  rw [l']
  rfl
theorem zadd (x : Int32) : 0 + x = x := by simp
theorem t_count {sc sm : St} (h : RR sc sm) {w : Nat} (hw : w ≤ 9) : ∃ v, f_X5_count (nI w) sc = some (v, sc) ∧ f_X6_counted (nI w) sm = some (v, sm) := by
  obtain ⟨N, hV, hB⟩ := R_V h
  obtain ⟨N', hRV, -, ⟨T, hT⟩, -⟩ := h.1
  have hz : ∀ x : Int32, ¬ x = 4 → ¬ x = 6 → ¬ x = 5 → smF (c1F x sm) N = 0 := fun x a b c => smF_0 N (fun i _ => by unfold c1F; simp [a, b, c])
  have hz2 : ∀ x : Int32, ¬ x = 7 → smF (c2F x sm) 6 = 0 := fun x a => smF_0 6 (fun i _ => by unfold c2F; simp [a])
  have hz3 : ∀ x : Int32, ¬ x = 8 → smF (c3F x sm) 4 = 0 := fun x a => smF_0 4 (fun i _ => by unfold c3F; simp [a])
  have hz4 : ∀ x : Int32, ¬ x = 9 → smF (c4F x sm) 3 = 0 := fun x a => smF_0 3 (fun i _ => by unfold c4F; simp [a])
  rw [m_counted hV.1 hV.2.2.1]
  unfold f_X5_count
  rcases (show w = 0 ∨ w = 1 ∨ w = 2 ∨ w = 3 ∨ w = 4 ∨ w = 5 ∨ w = 6 ∨ w = 7 ∨ w = 8 ∨ w = 9 by omega) with rfl | rfl | rfl | rfl | rfl | rfl | rfl | rfl | rfl | rfl
  · rw [show nI 0 = 0 by decide +kernel]
    exact ⟨nI N, by simp [hV.2.1], by simp⟩
  · rw [show nI 1 = 1 by decide +kernel]
    exact ⟨sm.1 14 12, by simp [hV.2.2.2.1], by simp⟩
  · rw [show nI 2 = 2 by decide +kernel]
    exact ⟨sm.1 14 13, by simp [hV.2.2.2.2.1], by simp⟩
  · rw [show nI 3 = 3 by decide +kernel]
    exact ⟨sm.1 0 21, by simp [hT.2.1, hT.2.2.1], by simp⟩
  · rw [show nI 4 = 4 by decide +kernel]
    exact ⟨_, by simp [e_known hV]; rfl, by rw [hz2 4 (by decide), hz3 4 (by decide), hz4 4 (by decide)]; simp⟩
  · rw [show nI 5 = 5 by decide +kernel]
    exact ⟨_, by simp [e_sours hV]; rfl, by rw [hz2 5 (by decide), hz3 5 (by decide), hz4 5 (by decide)]; simp⟩
  · rw [show nI 6 = 6 by decide +kernel]
    exact ⟨_, by simp [e_silents hV]; rfl, by rw [hz2 6 (by decide), hz3 6 (by decide), hz4 6 (by decide)]; simp⟩
  · rw [show nI 7 = 7 by decide +kernel]
    exact ⟨_, by simp [e_rowsThere h]; rfl, by rw [hz 7 (by decide) (by decide) (by decide), hz3 7 (by decide), hz4 7 (by decide)]; simp⟩
  · rw [show nI 8 = 8 by decide +kernel]
    exact ⟨_, by simp [e_textsThere h]; rfl, by rw [hz 8 (by decide) (by decide) (by decide), hz2 8 (by decide), hz4 8 (by decide)]; simp⟩
  · rw [show nI 9 = 9 by decide +kernel]
    exact ⟨_, by simp [e_kept h]; rfl, by rw [hz 9 (by decide) (by decide) (by decide), hz2 9 (by decide), hz3 9 (by decide)]; simp⟩
theorem s_count {sc sm : St} (h : RR sc sm) (x : Int32) : Sim (f_X5_count x sc) (f_X6_count x sm) := by
  unfold f_X6_count
  rcases t_ix 9 (by omega) x 9 (by decide +kernel) (sm := sm) with ⟨w, hw, rfl, e⟩ | ⟨e, q⟩
  · obtain ⟨v, e1, e2⟩ := t_count h hw
    rw [e, e1]
    simp only [b_s, z1, if_false, e2]
    exact ⟨v, sc, sm, rfl, rfl, h⟩
  · rw [e]
    simp only [b_s, if_true]
    refine ⟨-1, sc, sm, ?_, rfl, h⟩
    unfold f_X5_count
    have hne : ∀ w : Nat, w ≤ 9 → ¬ x = nI w := by
      rintro w hw rfl
      rcases q with q | ⟨-, q⟩
      · exact nI_pos (by omega) q
      · exact nI_ge (show w < 10 by omega) (by omega) q
    rw [if_neg (fun z => hne 0 (by omega) (z.trans (by decide +kernel))), if_neg (fun z => hne 1 (by omega) (z.trans (by decide +kernel))), if_neg (fun z => hne 2 (by omega) (z.trans (by decide +kernel))), if_neg (fun z => hne 3 (by omega) (z.trans (by decide +kernel))), if_neg (fun z => hne 4 (by omega) (z.trans (by decide +kernel))), if_neg (fun z => hne 5 (by omega) (z.trans (by decide +kernel))), if_neg (fun z => hne 6 (by omega) (z.trans (by decide +kernel))), if_neg (fun z => hne 7 (by omega) (z.trans (by decide +kernel))), if_neg (fun z => hne 8 (by omega) (z.trans (by decide +kernel))), if_neg (fun z => hne 9 (by omega) (z.trans (by decide +kernel)))]
