/-! THE SHOP SEEN: what both sides read of it -/
def VV (N : Nat) (sc sm : St) : Prop := N ≤ 6 ∧ sc.1 15 2 = nI N ∧ sm.1 0 10 = nI N ∧ sc.1 15 3 = sm.1 14 12 ∧ sc.1 15 4 = sm.1 14 13 ∧ ∀ p, p < N → sc.1 (17 + p) 0 = sm.1 7 p ∧ sc.1 (17 + p) 1 = sm.1 8 p ∧ sc.1 (17 + p) 2 = sm.1 9 p ∧ sc.1 (17 + p) 3 = sm.1 10 p ∧ sc.1 (17 + p) 4 = sm.1 11 p ∧ sc.1 (17 + p) 5 = sm.1 12 p ∧ sc.1 (17 + p) 6 = sm.1 14 p ∧ sc.1 (17 + p) 7 = sm.1 14 (6 + p)
def VB (N : Nat) (sm : St) : Prop := ∀ p, p < N → (∃ h, h < 4 ∧ sm.1 8 p = nI h) ∧ (∃ h, h < 4 ∧ sm.1 9 p = nI h) ∧ ∃ c, 1 ≤ c ∧ c ≤ 9 ∧ sm.1 12 p = nI c
theorem R_V {sc sm : St} (h : RR sc sm) : ∃ N, VV N sc sm ∧ VB N sm := by
  obtain ⟨N, hV, hN, -, -⟩ := h.1
  refine ⟨N, ⟨hV.1, hV.2.1, hV.2.2.1, hN.2.1, hN.2.2, fun p hp => ?_⟩, fun p hp => (hV.2.2.2 p hp).2⟩
  have f := (hV.2.2.2 p hp).1
  have g := hN.1 p hp
  exact ⟨f 0 (by omega), f 1 (by omega), f 2 (by omega), f 3 (by omega), f 4 (by omega), f 5 (by omega), g.1, g.2⟩
/-! checks, both sides -/
theorem isB0 : isB 0 = true := by decide
theorem isB1 : isB 1 = true := by decide
theorem t_thing (x : Int32) (sc sm : St) : (∃ j, j < 6 ∧ x = nI j ∧ f_X5_isThing x sc = some (1, sc) ∧ f_X6_isThing x sm = some (1, sm)) ∨ (f_X5_isThing x sc = some (0, sc) ∧ f_X6_isThing x sm = some (0, sm)) := by
  unfold f_X5_isThing f_X6_isThing
  rw [show (6 : Int32) = nI 6 by decide +kernel]
  rcases t_ix 5 (by omega) x 5 (by decide +kernel) (sm := sm) with ⟨j, hj, rfl, e⟩ | ⟨e, h | ⟨h1, h2⟩⟩
  · exact Or.inl ⟨j, by omega, rfl, by rw [if_neg (nI_pos (by omega)), if_neg (nI_ge (by omega) (by omega))], by rw [e]; rfl⟩
  · exact Or.inr ⟨by rw [if_pos h], by rw [e]; rfl⟩
  · exact Or.inr ⟨by rw [if_neg h1, if_pos h2], by rw [e]; rfl⟩
theorem t_laid (x : Int32) (sc sm : St) : ((x = -9 ∨ ∃ j, j < 6 ∧ x = nI j) ∧ f_X5_isThingOrNone x sc = some (1, sc) ∧ f_X6_isLaid x sm = some (1, sm)) ∨ (f_X5_isThingOrNone x sc = some (0, sc) ∧ f_X6_isLaid x sm = some (0, sm)) := by
  unfold f_X5_isThingOrNone f_X6_isLaid
  by_cases h9 : x = -9
  · rw [if_pos h9, if_pos h9]
    exact Or.inl ⟨Or.inl h9, rfl, rfl⟩
  · rw [if_neg h9, if_neg h9]
    rcases t_thing x sc sm with ⟨j, hj, rfl, e1, e2⟩ | ⟨e1, e2⟩
    · rw [e1, e2]
      exact Or.inl ⟨Or.inr ⟨j, hj, rfl⟩, rfl, rfl⟩
    · rw [e1, e2]
      exact Or.inr ⟨rfl, rfl⟩
theorem t_sign (x : Int32) (sc sm : St) : (f_X5_isSign x sc = some (1, sc) ∧ f_X6_isSign x sm = some (1, sm)) ∨ (f_X5_isSign x sc = some (0, sc) ∧ f_X6_isSign x sm = some (0, sm)) := by
  unfold f_X5_isSign f_X6_isSign
  by_cases h9 : x = -9
  · rw [if_pos h9, if_pos h9]
    exact Or.inl ⟨rfl, rfl⟩
  · rw [if_neg h9, if_neg h9, show (4 : Int32) = nI 4 by decide +kernel]
    rcases t_ix 3 (by omega) x 3 (by decide +kernel) (sm := sm) with ⟨j, hj, rfl, e⟩ | ⟨e, h | ⟨h1, h2⟩⟩
    · exact Or.inl ⟨by rw [if_neg (nI_pos (by omega)), if_neg (nI_ge (by omega) (by omega))], by rw [e]; rfl⟩
    · exact Or.inr ⟨by rw [if_pos h], by rw [e]; rfl⟩
    · exact Or.inr ⟨by rw [if_neg h1, if_pos h2], by rw [e]; rfl⟩
theorem t_morn (x : Int32) (sc sm : St) : (∃ j, j ≤ 999 ∧ x = nI j ∧ f_X5_isMorning x sc = some (1, sc) ∧ f_X6_in x 0 999 sm = some (1, sm)) ∨ (f_X5_isMorning x sc = some (0, sc) ∧ f_X6_in x 0 999 sm = some (0, sm)) := by
  unfold f_X5_isMorning
  rcases t_ix 999 (by omega) x 999 (by decide +kernel) (sm := sm) with ⟨j, hj, rfl, e⟩ | ⟨e, h | ⟨h1, h2⟩⟩
  · exact Or.inl ⟨j, by omega, rfl, by rw [if_neg (nI_pos (by omega)), show (999 : Int32) = nI 999 by decide +kernel, if_neg (nI_nlt (by omega) (by omega))], e⟩
  · exact Or.inr ⟨by rw [if_pos h], e⟩
  · refine Or.inr ⟨?_, e⟩
    rw [if_neg h1, if_pos]
    have a := Int32.le_iff_toInt_le.mp h2
    rw [nI_toInt (by omega)] at a
    rw [Int32.lt_iff_toInt_lt]
    show (999 : Int) < _
    omega
theorem t_placeK (x : Int32) (sc sm : St) : (∃ j, j < 3 ∧ x = nI j ∧ f_X5_isPlace x sc = some (1, sc) ∧ f_X6_in x 0 2 sm = some (1, sm)) ∨ (f_X5_isPlace x sc = some (0, sc) ∧ f_X6_in x 0 2 sm = some (0, sm)) := by
  unfold f_X5_isPlace
  rw [show (3 : Int32) = nI 3 by decide +kernel]
  rcases t_ix 2 (by omega) x 2 (by decide +kernel) (sm := sm) with ⟨j, hj, rfl, e⟩ | ⟨e, h | ⟨h1, h2⟩⟩
  · exact Or.inl ⟨j, by omega, rfl, by rw [if_neg (nI_pos (by omega)), if_neg (nI_ge (by omega) (by omega))], e⟩
  · exact Or.inr ⟨by rw [if_pos h], e⟩
  · exact Or.inr ⟨by rw [if_neg h1, if_pos h2], e⟩
theorem t_reg {N : Nat} {sc sm : St} (hV : VV N sc sm) (x : Int32) : (∃ p, p < N ∧ x = nI p ∧ f_X5_isRegular x sc = some (1, sc) ∧ f_X6_isRegular x sm = some (1, sm)) ∨ (f_X5_isRegular x sc = some (0, sc) ∧ f_X6_isRegular x sm = some (0, sm)) := by
  obtain ⟨hN, a, b, -⟩ := hV
  unfold f_X5_isRegular f_X6_isRegular
  rw [a, b]
  rcases t_place (n := N) (by omega) x sm with ⟨i, hi, rfl, e3⟩ | ⟨e3, q | ⟨q1, q2⟩⟩
  · exact Or.inl ⟨i, hi, rfl, by rw [if_neg (nI_pos (by omega)), if_neg (nI_ge hi (by omega))], by rw [e3]; rfl⟩
  · exact Or.inr ⟨by rw [if_pos q], by rw [e3]; rfl⟩
  · exact Or.inr ⟨by rw [if_neg q1, if_pos (Int32.not_lt.mp q2)], by rw [e3]; rfl⟩
theorem s_findings {sc sm : St} (h : RR sc sm) (x : Int32) : Sim (f_X5_findings x sc) (f_X6_findings x sm) := by
  unfold f_X5_findings f_X6_findings
  rw [m_in]
  by_cases h1 : x < 1
  · simp only [if_pos h1, b_s, if_true]
    exact ⟨-1, sc, sm, rfl, rfl, h⟩
  · by_cases h2 : x ≤ 5
    · have h2' : ¬ (5 : Int32) < x := Int32.not_lt.mpr h2
      have h0 : ¬ x < 0 := fun q => h1 (Int32.lt_iff_toInt_lt.mpr (by
        have := Int32.lt_iff_toInt_lt.mp q
        show x.toInt < (1 : Int)
        have e : (0 : Int32).toInt = 0 := by decide
        omega))
      obtain ⟨j, hj, rfl⟩ := nI_of2 (M := 5) (n := 5) (by decide +kernel) h0 h2
      simp only [if_neg h1, if_neg h2', if_pos h2, b_s, z1, if_false, gd_i _ (show j < 6 by omega) (show 6 < 2 ^ 31 by omega), nI_clamp (show j < 2 ^ 31 by omega)]
      exact ⟨sc.1 43 j, sc, sm, rfl, by rw [h.2.2.2.2.2.1 j (by omega)], h⟩
    · have h2' : (5 : Int32) < x := Int32.not_le.mp h2
      simp only [if_neg h1, if_pos h2', if_neg h2, b_s, if_true]
      exact ⟨-1, sc, sm, rfl, rfl, h⟩
theorem s_wants {sc sm : St} (h : RR sc sm) (x m : Int32) : Sim (f_X5_wants x m sc) (f_X6_wants x m sm) := by
  obtain ⟨N, hV, hB⟩ := R_V h
  unfold f_X5_wants f_X6_wants
  rcases t_reg hV x with ⟨p, hp, rfl, e1, e2⟩ | ⟨e1, e2⟩
  · have hp6 : p < 6 := by have := hV.1; omega
    obtain ⟨v0, v1, v2, v3, v4, v5, v6, v7⟩ := hV.2.2.2.2.2 p hp
    rcases t_morn m sc sm with ⟨j, hj, rfl, d1, d2⟩ | ⟨d1, d2⟩
    · simp only [e1, e2, b_s, z1, if_false, d1, d2, gd_i _ hp6 (show 6 < 2 ^ 31 by omega), nI_clamp (show p < 2 ^ 31 by omega), e_wan, m_wan hp6, v0, v3, v4]
      exact ⟨_, sc, sm, rfl, rfl, h⟩
    · simp only [e1, e2, b_s, z1, if_false, d1, d2, if_true]
      exact ⟨-1, sc, sm, rfl, rfl, h⟩
  · simp only [e1, e2, b_s, if_true]
    exact ⟨-1, sc, sm, rfl, rfl, h⟩
theorem s_parts {sc sm : St} (h : RR sc sm) (x y : Int32) : Sim (f_X5_parts x y sc) (f_X6_parts x y sm) := by
  obtain ⟨N, hV, hB⟩ := R_V h
  unfold f_X5_parts f_X6_parts f_X5_areTwo
  rcases t_reg hV x with ⟨p, hp, rfl, e1, e2⟩ | ⟨e1, e2⟩
  · rcases t_reg hV y with ⟨q, hq, rfl, d1, d2⟩ | ⟨d1, d2⟩
    · have hp6 : p < 6 := by have := hV.1; omega
      have hq6 : q < 6 := by have := hV.1; omega
      obtain ⟨v0, v1, v2, v3, v4, v5, v6, v7⟩ := hV.2.2.2.2.2 p hp
      obtain ⟨w0, w1, w2, w3, w4, w5, w6, w7⟩ := hV.2.2.2.2.2 q hq
      simp only [e1, e2, d1, d2, b_s, z1, if_false]
      by_cases e : nI p = nI q
      · simp only [if_pos e, b_s, if_true]
        exact ⟨-1, sc, sm, rfl, rfl, h⟩
      · simp only [if_neg e, b_s, z1, if_false, gd_i _ hp6 (show 6 < 2 ^ 31 by omega), gd_i _ hq6 (show 6 < 2 ^ 31 by omega), nI_clamp (show p < 2 ^ 31 by omega), nI_clamp (show q < 2 ^ 31 by omega), v1, v2, w1, w2]
        split <;> split <;> exact ⟨_, sc, sm, rfl, rfl, h⟩
    · simp only [e1, e2, d1, d2, b_s, z1, if_false, if_true]
      exact ⟨-1, sc, sm, rfl, rfl, h⟩
  · simp only [e1, e2, b_s, if_true]
    exact ⟨-1, sc, sm, rfl, rfl, h⟩
theorem t_fact {N : Nat} {sc sm : St} (hV : VV N sc sm) {p : Nat} (hp : p < N) (w : Int32) : ∃ v, f_X3_factOf (nI p) w sc = some (v, sc) ∧ f_X6_regularTells (nI p) w sm = some (v, sm) := by
  have hp6 : p < 6 := by have := hV.1; omega
  obtain ⟨v0, v1, v2, v3, v4, v5, v6, v7⟩ := hV.2.2.2.2.2 p hp
  unfold f_X3_factOf f_X6_regularTells
  rw [show (6 : Int32) + nI p = nI (6 + p) by rw [show (6 : Int32) = nI 6 by decide +kernel, nI_add]]
  simp only [gd_i _ hp6 (show 6 < 2 ^ 31 by omega), gd_i _ (show p < 14 by omega) (show 14 < 2 ^ 31 by omega), gd_i _ (show 6 + p < 14 by omega) (show 14 < 2 ^ 31 by omega), nI_clamp (show p < 2 ^ 31 by omega), nI_clamp (show 6 + p < 2 ^ 31 by omega), e_wan, m_now hp6, b_s, v0, v1, v2, v3, v4, v5, v6, v7, hV.2.2.2.1]
  split; exact ⟨_, rfl, rfl⟩
  split; exact ⟨_, rfl, rfl⟩
  split; exact ⟨_, rfl, rfl⟩
  split; exact ⟨_, rfl, rfl⟩
  split; exact ⟨_, rfl, rfl⟩
  split; exact ⟨_, rfl, rfl⟩
  split; exact ⟨_, rfl, rfl⟩
  split <;> exact ⟨_, rfl, rfl⟩
theorem s_regular {sc sm : St} (h : RR sc sm) (x w : Int32) : Sim (f_X5_regular x w sc) (f_X6_regular x w sm) := by
  obtain ⟨N, hV, hB⟩ := R_V h
  unfold f_X5_regular f_X6_regular
  rcases t_reg hV x with ⟨p, hp, rfl, e1, e2⟩ | ⟨e1, e2⟩
  · obtain ⟨v, t1, t2⟩ := t_fact hV hp w
    rcases t_ix 8 (by omega) w 8 (by decide +kernel) (sm := sm) with ⟨j, hj, rfl, e⟩ | ⟨e, q | ⟨q1, q2⟩⟩
    · simp only [e1, e2, b_s, z1, if_false, e, if_n (nI_pos (show j < 2 ^ 31 by omega)), t1, t2, ls_e, b_eta]
      rw [show (9 : Int32) = nI 9 by decide +kernel, if_pos (nI_lt (by omega) (by omega))]
      unfold f_X6_tells
      exact ⟨1, _, _, rfl, rfl, s_ask h v⟩
    · simp only [e1, e2, b_s, z1, if_false, e, if_pos q, if_true]
      exact ⟨-1, sc, sm, rfl, rfl, h⟩
    · simp only [e1, e2, b_s, z1, if_false, e, if_neg q1, if_true]
      rw [show (9 : Int32) = nI 9 by decide +kernel, if_neg (Int32.not_lt.mpr q2)]
      exact ⟨-1, sc, sm, rfl, rfl, h⟩
  · simp only [e1, e2, b_s, if_true]
    exact ⟨-1, sc, sm, rfl, rfl, h⟩
/-! SETS of regulars as numbers below 64 -/
def sN (f : Nat → Bool) : Nat → Nat
  | 0 => 0
  | k + 1 => if f k = true then sN f k ||| 2 ^ k else sN f k
theorem sN_lt (f : Nat → Bool) : ∀ k, sN f k < 2 ^ k
  | 0 => by show (0 : Nat) < 1; omega
  | k + 1 => by
    have := sN_lt f k
    show (if f k = true then sN f k ||| 2 ^ k else sN f k) < 2 ^ (k + 1)
    split
    · exact Nat.or_lt_two_pow (by rw [Nat.pow_succ]; omega) (by rw [Nat.pow_succ]; have := Nat.two_pow_pos k; omega)
    · rw [Nat.pow_succ]; omega
theorem sN_64 {f : Nat → Bool} {k : Nat} (h : k ≤ 6) : sN f k < 64 := Nat.lt_of_lt_of_le (sN_lt f k) (Nat.pow_le_pow_right (by omega) h)
theorem sN_bit (f : Nat → Bool) : ∀ k p, (sN f k).testBit p = (decide (p < k) && f p)
  | 0, p => by simp [sN]
  | k + 1, p => by
    have ih := sN_bit f k p
    show (if f k = true then sN f k ||| 2 ^ k else sN f k).testBit p = _
    by_cases hf : f k = true
    · rw [if_pos hf, Nat.testBit_or, ih, Nat.testBit_two_pow]
      by_cases hp : p = k
      · subst hp; simp [hf]
      · by_cases h2 : p < k
        · simp [h2, show p < k + 1 by omega, show ¬ k = p by omega]
        · simp [h2, show ¬ p < k + 1 by omega, show ¬ k = p by omega]
    · rw [if_neg hf, ih]
      by_cases hp : p = k
      · subst hp; simp [hf]
      · by_cases h2 : p < k
        · simp [h2, show p < k + 1 by omega]
        · simp [h2, show ¬ p < k + 1 by omega]
theorem sN_congr {f g : Nat → Bool} : ∀ k, (∀ p, p < k → f p = g p) → sN f k = sN g k
  | 0, _ => rfl
  | k + 1, h => by
    show (if f k = true then sN f k ||| 2 ^ k else sN f k) = (if g k = true then sN g k ||| 2 ^ k else sN g k)
    rw [sN_congr k (fun p hp => h p (by omega)), h k (by omega)]
theorem bor_all : ∀ s, s < 64 → ∀ k, k < 6 → (nI s ||| ((1 : Int32) <<< (nI k &&& 31))) = nI (s ||| 2 ^ k) := by decide +kernel
theorem has_all : ∀ s, s < 64 → ∀ k, k < 6 → (((nI s >>> (nI k &&& 31)) &&& 1 = 1) ↔ s.testBit k = true) := by decide +kernel
theorem sN_or {f : Nat → Bool} {k : Nat} (hk : k < 6) (hf : f k = true) : (nI (sN f k) ||| ((1 : Int32) <<< (nI k &&& 31))) = nI (sN f (k + 1)) := by
  rw [bor_all _ (sN_64 (by omega)) k hk]
  show _ = nI (if f k = true then sN f k ||| 2 ^ k else sN f k)
  rw [if_pos hf]
theorem sN_no {f : Nat → Bool} {k : Nat} (hf : ¬ f k = true) : sN f (k + 1) = sN f k := by
  show (if f k = true then sN f k ||| 2 ^ k else sN f k) = _
  rw [if_neg hf]
def lookF (sm : St) (hat step : Int32) : Nat → Bool := fun p => decide ((hat = -9 ∨ sm.1 8 p = hat) ∧ (step = -9 ∨ sm.1 9 p = step))
theorem e_looks (k : Nat) (hat step : Int32) (st : St) : f_X2_looks k hat step st = some (if (hat = -9 ∨ st.1 k 1 = hat) ∧ (step = -9 ∨ st.1 k 2 = step) then 1 else 0, st) := by
  unfold f_X2_looks
  simp only [eq_comm (a := hat) (b := st.1 k 1), eq_comm (a := step) (b := st.1 k 2)]
  by_cases h1 : hat = -9 <;> by_cases h2 : step = -9 <;> by_cases h3 : st.1 k 1 = hat <;> by_cases h4 : st.1 k 2 = step <;> simp [h1, h2, h3, h4]
theorem e_look {N : Nat} {sc sm : St} (hV : VV N sc sm) (hat step : Int32) : f_X3_thoseWhoLook hat step sc = some (nI (sN (lookF sm hat step) N), sc) := by
  have hN := hV.1
  unfold f_X3_thoseWhoLook
  have l := iter_fold (body := fun v : Int32 × Int32 × St => l_X3_thoseWhoLook_5 hat step v.1 v.2.1 v.2.2) (fun k => (nI (sN (lookF sm hat step) k), nI k, sc)) N (nI (sN (lookF sm hat step) N), nI N, sc) (by omega) (fun k hk => by
    obtain ⟨v0, v1, v2, -⟩ := hV.2.2.2.2.2 k hk
    dsimp only
    unfold l_X3_thoseWhoLook_5
    simp only [hV.2.1, if_neg (nI_ge hk (show N < 2 ^ 31 by omega)), gd_i _ (show k < 6 by omega) (show 6 < 2 ^ 31 by omega), nI_clamp (show k < 2 ^ 31 by omega), e_looks, b_s, v1, v2, lw_e, nI_1]
    by_cases hf : (hat = -9 ∨ sm.1 8 k = hat) ∧ (step = -9 ∨ sm.1 9 k = step)
    · rw [if_pos hf, if_neg (by decide), sN_or (by omega) (decide_eq_true hf)]
    · rw [if_neg hf, if_pos rfl, sN_no (f := lookF sm hat step) (by unfold lookF; simpa using hf)]) (by
    dsimp only
    unfold l_X3_thoseWhoLook_5
    simp only [hV.2.1, if_y (nI_le (Nat.le_refl N) (show N < 2 ^ 31 by omega))])
  have l' : iter (fun v : Int32 × Int32 × St => l_X3_thoseWhoLook_5 hat step v.1 v.2.1 v.2.2) fuel (0, 0, sc) = _ := l
  rw [l']
  rfl
theorem or0 (x : Int32) : x ||| 0 = x := by simp
theorem m_look {N : Nat} {sm : St} (hN : N ≤ 6) (hn : sm.1 0 10 = nI N) (hat step : Int32) : f_X6_looksSo hat step sm = some (nI (sN (lookF sm hat step) N), sm) := by
  unfold f_X6_looksSo
  have l := iter_fold (body := fun v : Int32 × Int32 × St => l_X6_looksSo_5 hat step v.1 v.2.1 v.2.2) (fun k => (nI (sN (lookF sm hat step) k), nI k, sm)) N (nI (sN (lookF sm hat step) N), nI N, sm) (by omega) (fun k hk => by
    dsimp only
    unfold l_X6_looksSo_5
    simp only [hn, if_neg (nI_ge hk (show N < 2 ^ 31 by omega)), gd_i _ (show k < 6 by omega) (show 6 < 2 ^ 31 by omega), nI_clamp (show k < 2 ^ 31 by omega), lw_e, nI_1, z1, if_false, if_true, or0]
    by_cases hf : (hat = -9 ∨ sm.1 8 k = hat) ∧ (step = -9 ∨ sm.1 9 k = step)
    · rw [sN_or (f := lookF sm hat step) (by omega) (decide_eq_true hf)]
      by_cases h1 : hat = -9 <;> by_cases h2 : step = -9 <;> by_cases h3 : sm.1 8 k = hat <;> by_cases h4 : sm.1 9 k = step <;> simp_all
    · rw [sN_no (f := lookF sm hat step) (by unfold lookF; simpa using hf)]
      by_cases h1 : hat = -9 <;> by_cases h2 : step = -9 <;> by_cases h3 : sm.1 8 k = hat <;> by_cases h4 : sm.1 9 k = step <;> simp_all) (by
    dsimp only
    unfold l_X6_looksSo_5
    simp only [hn, if_y (nI_le (Nat.le_refl N) (show N < 2 ^ 31 by omega))])
  have l' : iter (fun v : Int32 × Int32 × St => l_X6_looksSo_5 hat step v.1 v.2.1 v.2.2) fuel (0, 0, sm) = _ := l
  rw [l']
  rfl
theorem s_who {sc sm : St} (h : RR sc sm) (x y : Int32) : Sim (f_X5_who x y sc) (f_X6_who x y sm) := by
  obtain ⟨N, hV, hB⟩ := R_V h
  unfold f_X5_who f_X6_who
  rcases t_sign x sc sm with ⟨e1, e2⟩ | ⟨e1, e2⟩
  · rcases t_sign y sc sm with ⟨d1, d2⟩ | ⟨d1, d2⟩
    · simp only [e1, e2, d1, d2, b_s, z1, if_false, e_look hV, m_look hV.1 hV.2.2.1]
      exact ⟨_, sc, sm, rfl, rfl, h⟩
    · simp only [e1, e2, d1, d2, b_s, z1, if_false, if_true]
      exact ⟨-1, sc, sm, rfl, rfl, h⟩
  · simp only [e1, e2, b_s, if_true]
    exact ⟨-1, sc, sm, rfl, rfl, h⟩
