/-! SUMS over regulars, both sides -/
def smF (f : Nat → Int32) : Nat → Int32
  | 0 => 0
  | k + 1 => smF f k + f k
theorem smF_s (f : Nat → Int32) (k : Nat) : smF f k + f k = smF f (k + 1) := rfl
theorem smF_congr {f g : Nat → Int32} : ∀ n, (∀ i, i < n → f i = g i) → smF f n = smF g n
  | 0, _ => rfl
  | n + 1, h => by
    show smF f n + _ = smF g n + _
    rw [smF_congr n (fun i hi => h i (by omega)), h n (by omega)]
theorem add0 (x : Int32) : x + 0 = x := by simp
theorem smF_z {f : Nat → Int32} {k : Nat} (h : f k = 0) : smF f (k + 1) = smF f k := by
  show smF f k + f k = _
  rw [h, add0]
theorem e_in {s p : Nat} (hs : s < 64) (hp : p < 6) (st : St) : f_X3_isIn (nI s) (nI p) st = some (if s.testBit p = true then 1 else 0, st) := by
  unfold f_X3_isIn
  by_cases h : s.testBit p = true
  · rw [if_pos ((has_all s hs p hp).mpr h), if_pos h]
  · rw [if_neg (fun q => h ((has_all s hs p hp).mp q)), if_neg h]
theorem m_has {s p : Nat} (hs : s < 64) (hp : p < 6) (st : St) : f_X6_has (nI s) (nI p) st = some (if s.testBit p = true then 1 else 0, st) := by
  unfold f_X6_has
  by_cases h : s.testBit p = true
  · rw [if_pos ((has_all s hs p hp).mpr h), if_pos h]
  · rw [if_neg (fun q => h ((has_all s hs p hp).mp q)), if_neg h]
def comF (sm : St) (s : Nat) : Nat → Int32 := fun p => if s.testBit p = true then sm.1 12 p else 0
def wanS (sm : St) (p : Nat) : Int32 := wanF (sm.1 7 p) (sm.1 10 p) (sm.1 11 p) (sm.1 14 12)
def takS (sm : St) (th : Int32) (p : Nat) : Int32 := takF (sm.1 7 p) (sm.1 10 p) (sm.1 11 p) (sm.1 14 p) (sm.1 14 12) th
def souS (sm : St) (th : Int32) (p : Nat) : Int32 := souF (sm.1 7 p) (sm.1 10 p) (sm.1 11 p) (sm.1 14 12) th
theorem e_comes {N : Nat} {sc sm : St} (hV : VV N sc sm) {s : Nat} (hs : s < 64) : f_X3_comingsOf (nI s) sc = some (smF (comF sm s) N, sc) := by
  have hN := hV.1
  unfold f_X3_comingsOf
  have l := iter_fold (body := fun v : Int32 × Int32 × St => l_X3_comingsOf_4 (nI s) v.1 v.2.1 v.2.2) (fun k => (smF (comF sm s) k, nI k, sc)) N (smF (comF sm s) N, nI N, sc) (by omega) (fun k hk => by
    obtain ⟨v0, v1, v2, v3, v4, v5, -⟩ := hV.2.2.2.2.2 k hk
    dsimp only
    unfold l_X3_comingsOf_4
    simp only [hV.2.1, if_neg (nI_ge hk (show N < 2 ^ 31 by omega)), e_in hs (show k < 6 by omega), b_s, gd_i _ (show k < 6 by omega) (show 6 < 2 ^ 31 by omega), nI_clamp (show k < 2 ^ 31 by omega), v5, lw_e, nI_1]
    by_cases h : s.testBit k = true
    · rw [if_pos h, if_neg (by decide), ← smF_s]
      unfold comF; rw [if_pos h]
    · rw [if_neg h, if_pos rfl, smF_z (by unfold comF; rw [if_neg h])]) (by
    dsimp only
    unfold l_X3_comingsOf_4
    simp only [hV.2.1, if_y (nI_le (Nat.le_refl N) (show N < 2 ^ 31 by omega))])
  have l' : iter (fun v : Int32 × Int32 × St => l_X3_comingsOf_4 (nI s) v.1 v.2.1 v.2.2) fuel (0, 0, sc) = _ := l
  rw [l']
  rfl
theorem m_comes {N : Nat} {sm : St} (hN : N ≤ 6) (hn : sm.1 0 10 = nI N) {s : Nat} (hs : s < 64) : f_X6_comesOf (nI s) sm = some (smF (comF sm s) N, sm) := by
  unfold f_X6_comesOf
  have l := iter_fold (body := fun v : Int32 × Int32 × St => l_X6_comesOf_4 (nI s) v.1 v.2.1 v.2.2) (fun k => (smF (comF sm s) k, nI k, sm)) N (smF (comF sm s) N, nI N, sm) (by omega) (fun k hk => by
    dsimp only
    unfold l_X6_comesOf_4
    simp only [hn, if_neg (nI_ge hk (show N < 2 ^ 31 by omega)), m_has hs (show k < 6 by omega), b_s, gd_i _ (show k < 6 by omega) (show 6 < 2 ^ 31 by omega), nI_clamp (show k < 2 ^ 31 by omega), lw_e, nI_1, add0]
    by_cases h : s.testBit k = true
    · rw [if_pos h, if_neg (by decide), ← smF_s]
      unfold comF; rw [if_pos h]
    · rw [if_neg h, if_pos rfl, smF_z (by unfold comF; rw [if_neg h])]) (by
    dsimp only
    unfold l_X6_comesOf_4
    simp only [hn, if_y (nI_le (Nat.le_refl N) (show N < 2 ^ 31 by omega))])
  have l' : iter (fun v : Int32 × Int32 × St => l_X6_comesOf_4 (nI s) v.1 v.2.1 v.2.2) fuel (0, 0, sm) = _ := l
  rw [l']
  rfl
def wntB (sm : St) (s : Nat) (th : Int32) : Nat → Bool := fun p => s.testBit p && decide (wanS sm p = th)
theorem m_wanting {N : Nat} {sm : St} (hN : N ≤ 6) (hn : sm.1 0 10 = nI N) {s : Nat} (hs : s < 64) (th : Int32) : f_X6_wanting (nI s) th sm = some (nI (sN (wntB sm s th) N), sm) := by
  unfold f_X6_wanting
  have l := iter_fold (body := fun v : Int32 × Int32 × St => l_X6_wanting_5 (nI s) th v.1 v.2.1 v.2.2) (fun k => (nI (sN (wntB sm s th) k), nI k, sm)) N (nI (sN (wntB sm s th) N), nI N, sm) (by omega) (fun k hk => by
    dsimp only
    unfold l_X6_wanting_5
    simp only [hn, if_neg (nI_ge hk (show N < 2 ^ 31 by omega)), m_has hs (show k < 6 by omega), b_s, m_now (show k < 6 by omega), lw_e, nI_1, or0]
    by_cases h : s.testBit k = true
    · rw [if_pos h, if_neg (by decide)]
      by_cases h2 : wanS sm k = th
      · have hb : wntB sm s th k = true := by unfold wntB; simp [h, h2]
        unfold wanS at h2
        rw [if_pos h2, sN_or (by omega) hb]
      · have hb : ¬ wntB sm s th k = true := by unfold wntB; simp [h2]
        unfold wanS at h2
        rw [if_neg h2, sN_no hb]
    · have hb : ¬ wntB sm s th k = true := by unfold wntB; simp [h]
      rw [if_neg h, if_pos rfl, sN_no hb]) (by
    dsimp only
    unfold l_X6_wanting_5
    simp only [hn, if_y (nI_le (Nat.le_refl N) (show N < 2 ^ 31 by omega))])
  have l' : iter (fun v : Int32 × Int32 × St => l_X6_wanting_5 (nI s) th v.1 v.2.1 v.2.2) fuel (0, 0, sm) = _ := l
  rw [l']
  rfl
/-- who wants a thing: the class's sum is the reference's, of the set -/
theorem e_wanting {N : Nat} {sc sm : St} (hV : VV N sc sm) {s : Nat} (hs : s < 64) (th : Int32) : f_X3_comingsThatWant (nI s) th sc = some (smF (comF sm (sN (wntB sm s th) N)) N, sc) := by
  have hN := hV.1
  unfold f_X3_comingsThatWant
  have key : ∀ k, k < N → comF sm (sN (wntB sm s th) N) k = if wntB sm s th k = true then sm.1 12 k else 0 := by
    intro k hk
    unfold comF
    rw [sN_bit]
    simp [hk]
  have l := iter_fold (body := fun v : Int32 × Int32 × St => l_X3_comingsThatWant_5 (nI s) th v.1 v.2.1 v.2.2) (fun k => (smF (comF sm (sN (wntB sm s th) N)) k, nI k, sc)) N (smF (comF sm (sN (wntB sm s th) N)) N, nI N, sc) (by omega) (fun k hk => by
    obtain ⟨v0, v1, v2, v3, v4, v5, -⟩ := hV.2.2.2.2.2 k hk
    dsimp only
    unfold l_X3_comingsThatWant_5
    simp only [hV.2.1, if_neg (nI_ge hk (show N < 2 ^ 31 by omega)), e_in hs (show k < 6 by omega), b_s, gd_i _ (show k < 6 by omega) (show 6 < 2 ^ 31 by omega), nI_clamp (show k < 2 ^ 31 by omega), e_wan, v0, v3, v4, v5, hV.2.2.2.1, lw_e, nI_1]
    by_cases h : s.testBit k = true
    · rw [if_pos h, if_neg (by decide)]
      by_cases h2 : wanS sm k = th
      · have hb : wntB sm s th k = true := by unfold wntB; simp [h, h2]
        unfold wanS at h2
        rw [if_pos h2, ← smF_s, key k hk, if_pos hb]
      · have hb : ¬ wntB sm s th k = true := by unfold wntB; simp [h2]
        unfold wanS at h2
        rw [if_neg h2, smF_z (by rw [key k hk, if_neg hb])]
    · have hb : ¬ wntB sm s th k = true := by unfold wntB; simp [h]
      rw [if_neg h, if_pos rfl, smF_z (by rw [key k hk, if_neg hb])]) (by
    dsimp only
    unfold l_X3_comingsThatWant_5
    simp only [hV.2.1, if_y (nI_le (Nat.le_refl N) (show N < 2 ^ 31 by omega))])
  have l' : iter (fun v : Int32 × Int32 × St => l_X3_comingsThatWant_5 (nI s) th v.1 v.2.1 v.2.2) fuel (0, 0, sc) = _ := l
  rw [l']
  rfl
def secF (sm : St) (s : Nat) (th : Int32) : Nat → Int32 := fun p => if s.testBit p = true then sm.1 12 p * takS sm th p else 0
theorem e_sec {N : Nat} {sc sm : St} (hV : VV N sc sm) {s : Nat} (hs : s < 64) (th : Int32) : f_X3_secondsOf (nI s) th sc = some (smF (secF sm s th) N, sc) := by
  have hN := hV.1
  unfold f_X3_secondsOf
  have l := iter_fold (body := fun v : Int32 × Int32 × St => l_X3_secondsOf_5 (nI s) th v.1 v.2.1 v.2.2) (fun k => (smF (secF sm s th) k, nI k, sc)) N (smF (secF sm s th) N, nI N, sc) (by omega) (fun k hk => by
    obtain ⟨v0, v1, v2, v3, v4, v5, v6, -⟩ := hV.2.2.2.2.2 k hk
    dsimp only
    unfold l_X3_secondsOf_5
    simp only [hV.2.1, if_neg (nI_ge hk (show N < 2 ^ 31 by omega)), e_in hs (show k < 6 by omega), b_s, gd_i _ (show k < 6 by omega) (show 6 < 2 ^ 31 by omega), nI_clamp (show k < 2 ^ 31 by omega), e_tak, v0, v3, v4, v5, v6, hV.2.2.2.1, lw_e, nI_1]
    by_cases h : s.testBit k = true
    · rw [if_pos h, if_neg (by decide), ← smF_s]
      unfold secF takS; rw [if_pos h]
    · rw [if_neg h, if_pos rfl, smF_z (by unfold secF; rw [if_neg h])]) (by
    dsimp only
    unfold l_X3_secondsOf_5
    simp only [hV.2.1, if_y (nI_le (Nat.le_refl N) (show N < 2 ^ 31 by omega))])
  have l' : iter (fun v : Int32 × Int32 × St => l_X3_secondsOf_5 (nI s) th v.1 v.2.1 v.2.2) fuel (0, 0, sc) = _ := l
  rw [l']
  rfl
theorem m_sec {N : Nat} {sm : St} (hN : N ≤ 6) (hn : sm.1 0 10 = nI N) {s : Nat} (hs : s < 64) (th : Int32) : f_X6_takesOf (nI s) th sm = some (smF (secF sm s th) N, sm) := by
  unfold f_X6_takesOf
  have l := iter_fold (body := fun v : Int32 × Int32 × St => l_X6_takesOf_5 (nI s) th v.1 v.2.1 v.2.2) (fun k => (smF (secF sm s th) k, nI k, sm)) N (smF (secF sm s th) N, nI N, sm) (by omega) (fun k hk => by
    dsimp only
    unfold l_X6_takesOf_5
    simp only [hn, if_neg (nI_ge hk (show N < 2 ^ 31 by omega)), m_has hs (show k < 6 by omega), b_s, gd_i _ (show k < 6 by omega) (show 6 < 2 ^ 31 by omega), nI_clamp (show k < 2 ^ 31 by omega), m_tak (show k < 6 by omega), lw_e, nI_1, add0]
    by_cases h : s.testBit k = true
    · rw [if_pos h, if_neg (by decide), ← smF_s]
      unfold secF takS; rw [if_pos h]
    · rw [if_neg h, if_pos rfl, smF_z (by unfold secF; rw [if_neg h])]) (by
    dsimp only
    unfold l_X6_takesOf_5
    simp only [hn, if_y (nI_le (Nat.le_refl N) (show N < 2 ^ 31 by omega))])
  have l' : iter (fun v : Int32 × Int32 × St => l_X6_takesOf_5 (nI s) th v.1 v.2.1 v.2.2) fuel (0, 0, sm) = _ := l
  rw [l']
  rfl
def bestF (f : Int32 → Int32) : Nat → Int32
  | 0 => -9
  | k + 1 => if f (bestF f k) ≤ f (nI k) then bestF f k else nI k
theorem n6 : (6 : Int32) = nI 6 := by decide +kernel
theorem e_quick {N : Nat} {sc sm : St} (hV : VV N sc sm) {s : Nat} (hs : s < 64) : f_X3_quickestFor (nI s) sc = some (bestF (fun th => smF (secF sm s th) N) 6, sc) := by
  unfold f_X3_quickestFor
  have l := iter_fold (body := fun v : Int32 × Int32 × St => l_X3_quickestFor_5 (nI s) v.1 v.2.1 v.2.2) (fun k => (bestF (fun th => smF (secF sm s th) N) k, nI k, sc)) 6 (bestF (fun th => smF (secF sm s th) N) 6, nI 6, sc) (by omega) (fun k hk => by
    dsimp only
    unfold l_X3_quickestFor_5
    simp only [n6, if_neg (nI_ge hk (show 6 < 2 ^ 31 by omega)), e_sec hV hs, b_s, nI_1]
    show _ = some (Sum.inl ((if smF (secF sm s (bestF (fun th => smF (secF sm s th) N) k)) N ≤ smF (secF sm s (nI k)) N then bestF (fun th => smF (secF sm s th) N) k else nI k), nI (k + 1), sc))
    split <;> rfl) (by
    dsimp only
    unfold l_X3_quickestFor_5
    simp only [n6, if_y (nI_le (Nat.le_refl 6) (show 6 < 2 ^ 31 by omega))])
  have l' : iter (fun v : Int32 × Int32 × St => l_X3_quickestFor_5 (nI s) v.1 v.2.1 v.2.2) fuel (-9, 0, sc) = _ := l
  rw [l']
  rfl
theorem m_quick {N : Nat} {sm : St} (hN : N ≤ 6) (hn : sm.1 0 10 = nI N) {s : Nat} (hs : s < 64) : f_X6_quickestOf (nI s) sm = some (bestF (fun th => smF (secF sm s th) N) 6, sm) := by
  unfold f_X6_quickestOf
  have l := iter_fold (body := fun v : Int32 × Int32 × St => l_X6_quickestOf_5 (nI s) v.1 v.2.1 v.2.2) (fun k => (bestF (fun th => smF (secF sm s th) N) k, nI k, sm)) 6 (bestF (fun th => smF (secF sm s th) N) 6, nI 6, sm) (by omega) (fun k hk => by
    dsimp only
    unfold l_X6_quickestOf_5
    simp only [n6, if_neg (nI_ge hk (show 6 < 2 ^ 31 by omega)), m_sec hN hn hs, b_s, nI_1]
    show _ = some (Sum.inl ((if smF (secF sm s (bestF (fun th => smF (secF sm s th) N) k)) N ≤ smF (secF sm s (nI k)) N then bestF (fun th => smF (secF sm s th) N) k else nI k), nI (k + 1), sm))
    split <;> rfl) (by
    dsimp only
    unfold l_X6_quickestOf_5
    simp only [n6, if_y (nI_le (Nat.le_refl 6) (show 6 < 2 ^ 31 by omega))])
  have l' : iter (fun v : Int32 × Int32 × St => l_X6_quickestOf_5 (nI s) v.1 v.2.1 v.2.2) fuel (-9, 0, sm) = _ := l
  rw [l']
  rfl
def sorB (sm : St) (s : Nat) (th : Int32) : Nat → Bool := fun p => s.testBit p && decide (¬ souS sm th p = 0)
theorem e_sour {N : Nat} {sc sm : St} (hV : VV N sc sm) {s : Nat} (hs : s < 64) (th : Int32) : f_X3_souredBy (nI s) th sc = some (nI (sN (sorB sm s th) N), sc) := by
  have hN := hV.1
  unfold f_X3_souredBy
  have l := iter_fold (body := fun v : Int32 × Int32 × St => l_X3_souredBy_5 (nI s) th v.1 v.2.1 v.2.2) (fun k => (nI (sN (sorB sm s th) k), nI k, sc)) N (nI (sN (sorB sm s th) N), nI N, sc) (by omega) (fun k hk => by
    obtain ⟨v0, v1, v2, v3, v4, v5, v6, -⟩ := hV.2.2.2.2.2 k hk
    dsimp only
    unfold l_X3_souredBy_5
    simp only [hV.2.1, if_neg (nI_ge hk (show N < 2 ^ 31 by omega)), e_in hs (show k < 6 by omega), b_s, gd_i _ (show k < 6 by omega) (show 6 < 2 ^ 31 by omega), nI_clamp (show k < 2 ^ 31 by omega), e_sou, v0, v3, v4, hV.2.2.2.1, lw_e, nI_1]
    by_cases h : s.testBit k = true
    · rw [if_pos h, if_neg (by decide)]
      by_cases h2 : souS sm th k = 0
      · have hb : ¬ sorB sm s th k = true := by unfold sorB; simp [h2]
        unfold souS at h2
        rw [if_pos h2, sN_no hb]
      · have hb : sorB sm s th k = true := by unfold sorB; simp [h, h2]
        unfold souS at h2
        rw [if_neg h2, sN_or (by omega) hb]
    · have hb : ¬ sorB sm s th k = true := by unfold sorB; simp [h]
      rw [if_neg h, if_pos rfl, sN_no hb]) (by
    dsimp only
    unfold l_X3_souredBy_5
    simp only [hV.2.1, if_y (nI_le (Nat.le_refl N) (show N < 2 ^ 31 by omega))])
  have l' : iter (fun v : Int32 × Int32 × St => l_X3_souredBy_5 (nI s) th v.1 v.2.1 v.2.2) fuel (0, 0, sc) = _ := l
  rw [l']
  rfl
theorem m_sour {N : Nat} {sm : St} (hN : N ≤ 6) (hn : sm.1 0 10 = nI N) {s : Nat} (hs : s < 64) (th : Int32) : f_X6_soured (nI s) th sm = some (nI (sN (sorB sm s th) N), sm) := by
  unfold f_X6_soured
  have l := iter_fold (body := fun v : Int32 × Int32 × St => l_X6_soured_5 (nI s) th v.1 v.2.1 v.2.2) (fun k => (nI (sN (sorB sm s th) k), nI k, sm)) N (nI (sN (sorB sm s th) N), nI N, sm) (by omega) (fun k hk => by
    dsimp only
    unfold l_X6_soured_5
    simp only [hn, if_neg (nI_ge hk (show N < 2 ^ 31 by omega)), m_has hs (show k < 6 by omega), b_s, m_sou (show k < 6 by omega), lw_e, nI_1, or0]
    by_cases h : s.testBit k = true
    · rw [if_pos h, if_neg (by decide)]
      by_cases h2 : souS sm th k = 0
      · have hb : ¬ sorB sm s th k = true := by unfold sorB; simp [h2]
        unfold souS at h2
        rw [if_pos h2, sN_no hb]
      · have hb : sorB sm s th k = true := by unfold sorB; simp [h, h2]
        unfold souS at h2
        rw [if_neg h2, sN_or (by omega) hb]
    · have hb : ¬ sorB sm s th k = true := by unfold sorB; simp [h]
      rw [if_neg h, if_pos rfl, sN_no hb]) (by
    dsimp only
    unfold l_X6_soured_5
    simp only [hn, if_y (nI_le (Nat.le_refl N) (show N < 2 ^ 31 by omega))])
  have l' : iter (fun v : Int32 × Int32 × St => l_X6_soured_5 (nI s) th v.1 v.2.1 v.2.2) fuel (0, 0, sm) = _ := l
  rw [l']
  rfl
/-! how many bits -/
def popN (s : Nat) : Nat := (if s.testBit 0 then 1 else 0) + (if s.testBit 1 then 1 else 0) + (if s.testBit 2 then 1 else 0) + (if s.testBit 3 then 1 else 0) + (if s.testBit 4 then 1 else 0) + (if s.testBit 5 then 1 else 0)
def bcE (x0 : Int32) : Int32 :=
  let y1 := x0 - (((x0.toUInt32 >>> ((1 : Int32).toUInt32 &&& Int32.toUInt32 31)).toInt32) &&& (1431655765 : Int32))
  let y2 := (y1 &&& (858993459 : Int32)) + (((y1.toUInt32 >>> ((2 : Int32).toUInt32 &&& Int32.toUInt32 31)).toInt32) &&& (858993459 : Int32))
  let y3 := (y2 + ((y2.toUInt32 >>> ((4 : Int32).toUInt32 &&& Int32.toUInt32 31)).toInt32)) &&& (252645135 : Int32)
  let y4 := y3 + ((y3.toUInt32 >>> ((8 : Int32).toUInt32 &&& Int32.toUInt32 31)).toInt32)
  let y5 := y4 + ((y4.toUInt32 >>> ((16 : Int32).toUInt32 &&& Int32.toUInt32 31)).toInt32)
  y5 &&& (63 : Int32)
theorem bc_all : ∀ s, s < 64 → bcE (nI s) = nI (popN s) := by decide +kernel
theorem e_bc {s : Nat} (hs : s < 64) (st : St) : f_J6_bitCount_0f7a4 (nI s) st = some (nI (popN s), st) := by
  rw [← bc_all s hs]
  rfl
def kern (s : Nat) : Nat → Nat
  | 0 => s
  | k + 1 => kern s k &&& (kern s k - 1)
theorem kern_all : ∀ s, s < 64 → kern s (popN s) = 0 ∧ popN s ≤ 6 ∧ ∀ k, k < popN s → kern s k ≠ 0 ∧ kern s k < 64 := by decide +kernel
theorem ker_and : ∀ a, a < 64 → nI a &&& (nI a - 1) = nI (a &&& (a - 1)) ∨ a = 0 := by decide +kernel
theorem m_bits {s : Nat} (hs : s < 64) (st : St) : f_X6_bits (nI s) st = some (nI (popN s), st) := by
  obtain ⟨k1, k2, k3⟩ := kern_all s hs
  unfold f_X6_bits
  have l := iter_fold (body := fun v : Int32 × Int32 × St => l_X6_bits_4 (nI s) v.1 v.2.1 v.2.2) (fun k => (nI k, nI (kern s k), st)) (popN s) (nI (popN s), nI 0, st) (by omega) (fun k hk => by
    obtain ⟨z, z2⟩ := k3 k hk
    dsimp only
    unfold l_X6_bits_4
    rw [if_neg (nI_ne0 (by omega) (by omega)), lw_e, nI_1]
    rcases ker_and _ z2 with e | e
    · rw [e]; rfl
    · exact absurd e z) (by
    dsimp only
    unfold l_X6_bits_4
    rw [k1, if_pos nI_0])
  have l' : iter (fun v : Int32 × Int32 × St => l_X6_bits_4 (nI s) v.1 v.2.1 v.2.2) fuel (0, nI s, st) = _ := l
  rw [l']
  rfl
theorem ev_all : ∀ N, N ≤ 6 → ((1 : Int32) <<< (nI N &&& 31)) - 1 = nI (2 ^ N - 1) := by decide +kernel
theorem p2_64 {N : Nat} (h : N ≤ 6) : 2 ^ N - 1 < 64 := by
  have := Nat.pow_le_pow_right (n := 2) (by omega) h
  omega
theorem s_sour {sc sm : St} (h : RR sc sm) (x : Int32) : Sim (f_X5_sour x sc) (f_X6_sour x sm) := by
  obtain ⟨N, hV, hB⟩ := R_V h
  unfold f_X5_sour f_X6_sour f_X3_everybody f_X6_everybody
  rcases t_thing x sc sm with ⟨j, hj, rfl, e1, e2⟩ | ⟨e1, e2⟩
  · simp only [e1, e2, b_s, z1, if_false, hV.2.1, hV.2.2.1, ev_all N hV.1, e_sour hV (p2_64 hV.1), m_sour hV.1 hV.2.2.1 (p2_64 hV.1), ls_e, sA_k, pk_us, e_bc (sN_64 hV.1), m_bits (sN_64 hV.1), b_eta]
    unfold f_X6_tells
    exact ⟨_, _, _, rfl, rfl, s_ask h _⟩
  · simp only [e1, e2, b_s, if_true]
    exact ⟨-1, sc, sm, rfl, rfl, h⟩
theorem s_quickest {sc sm : St} (h : RR sc sm) (x y : Int32) : Sim (f_X5_quickest x y sc) (f_X6_quickest x y sm) := by
  obtain ⟨N, hV, hB⟩ := R_V h
  have hs : sN (lookF sm x y) N < 64 := sN_64 hV.1
  unfold f_X5_quickest f_X6_quickest
  rcases t_sign x sc sm with ⟨e1, e2⟩ | ⟨e1, e2⟩
  · rcases t_sign y sc sm with ⟨d1, d2⟩ | ⟨d1, d2⟩
    · simp only [e1, e2, d1, d2, b_s, z1, if_false, e_look hV, m_look hV.1 hV.2.2.1, b_eta]
      by_cases hz : nI (sN (lookF sm x y) N) = 0
      · simp only [if_pos hz]
        obtain ⟨sc', sm', f1, f2, h'⟩ := s_found h (x := 4) 4 (by omega) (by decide +kernel)
        exact ⟨-3, sc', sm', f1, f2, h'⟩
      · simp only [if_neg hz, e_quick hV hs, m_quick hV.1 hV.2.2.1 hs, b_s, e_sour hV hs, m_sour hV.1 hV.2.2.1 hs, e_bc (sN_64 hV.1), m_bits (sN_64 hV.1), ls_e]
        unfold f_X6_tells
        exact ⟨_, _, _, rfl, rfl, s_ask h _⟩
    · simp only [e1, e2, d1, d2, b_s, z1, if_false, if_true]
      exact ⟨-1, sc, sm, rfl, rfl, h⟩
  · simp only [e1, e2, b_s, if_true]
    exact ⟨-1, sc, sm, rfl, rfl, h⟩
