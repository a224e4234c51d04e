/-! LEARN -/
def wekF (sm : St) (s : Nat) : Nat → Int32 := fun p => sm.1 12 p * (if s.testBit p = true then 9 else 40)
theorem e_week {N : Nat} {sc sm : St} (hV : VV N sc sm) {s : Nat} (hs : s < 64) : f_X3_weekWith (nI s) sc = some (smF (wekF sm s) N, sc) := by
  have hN := hV.1
  unfold f_X3_weekWith
  have l := iter_fold (body := fun v : Int32 × Int32 × St => l_X3_weekWith_4 (nI s) v.1 v.2.1 v.2.2) (fun k => (smF (wekF sm s) k, nI k, sc)) N (smF (wekF sm s) N, nI N, sc) (by omega) (fun k hk => by
    obtain ⟨v0, v1, v2, v3, v4, v5, v6, v7⟩ := hV.2.2.2.2.2 k hk
    dsimp only
    rw [← smF_s]
    unfold l_X3_weekWith_4 wekF
    simp only [hV.2.1, if_neg (nI_ge hk (show N < 2 ^ 31 by omega)), e_in hs (show k < 6 by omega), b_s, gd_i _ (show k < 6 by omega) (show 6 < 2 ^ 31 by omega), nI_clamp (show k < 2 ^ 31 by omega), v5, lw_e, nI_1]
    by_cases h : s.testBit k = true
    · simp only [if_pos h, z1, if_false]
    · simp only [if_neg h, if_true]) (by
    dsimp only
    unfold l_X3_weekWith_4
    simp only [hV.2.1, if_y (nI_le (Nat.le_refl N) (show N < 2 ^ 31 by omega))])
  have l' : iter (fun v : Int32 × Int32 × St => l_X3_weekWith_4 (nI s) v.1 v.2.1 v.2.2) fuel (0, 0, sc) = _ := l
  rw [l']
  rfl
theorem m_week {N : Nat} {sm : St} (hN : N ≤ 6) (hn : sm.1 0 10 = nI N) {s : Nat} (hs : s < 64) : f_X6_weekOf (nI s) sm = some (smF (wekF sm s) N, sm) := by
  unfold f_X6_weekOf
  have l := iter_fold (body := fun v : Int32 × Int32 × St => l_X6_weekOf_4 (nI s) v.1 v.2.1 v.2.2) (fun k => (smF (wekF sm s) k, nI k, sm)) N (smF (wekF sm s) N, nI N, sm) (by omega) (fun k hk => by
    dsimp only
    rw [← smF_s]
    unfold l_X6_weekOf_4 wekF
    simp only [hn, if_neg (nI_ge hk (show N < 2 ^ 31 by omega)), m_has hs (show k < 6 by omega), b_s, gd_i _ (show k < 6 by omega) (show 6 < 2 ^ 31 by omega), nI_clamp (show k < 2 ^ 31 by omega), lw_e, nI_1]
    by_cases h : s.testBit k = true
    · simp only [if_pos h, z1, if_false]
    · simp only [if_neg h, if_true]) (by
    dsimp only
    unfold l_X6_weekOf_4
    simp only [hn, if_y (nI_le (Nat.le_refl N) (show N < 2 ^ 31 by omega))])
  have l' : iter (fun v : Int32 × Int32 × St => l_X6_weekOf_4 (nI s) v.1 v.2.1 v.2.2) fuel (0, 0, sm) = _ := l
  rw [l']
  rfl
theorem wek_n {N : Nat} {sm : St} (hB : VB N sm) (s : Nat) : ∀ k, k ≤ N → ∃ u, smF (wekF sm s) k = nI u ∧ u ≤ 360 * k
  | 0, _ => ⟨0, nI_0.symm, by omega⟩
  | k + 1, hk => by
    obtain ⟨u, e, h1⟩ := wek_n hB s k (by omega)
    obtain ⟨-, -, c, c1, c2, c3⟩ := hB k (by omega)
    show ∃ u, smF (wekF sm s) k + wekF sm s k = nI u ∧ _
    rw [e]
    unfold wekF
    rw [c3]
    by_cases hb : s.testBit k = true
    · refine ⟨u + c * 9, ?_, by omega⟩
      rw [if_pos hb, show (9 : Int32) = nI 9 by decide +kernel, pk_mul, nI_add]
    · refine ⟨u + c * 40, ?_, by omega⟩
      rw [if_neg hb, show (40 : Int32) = nI 40 by decide +kernel, pk_mul, nI_add]
theorem sh_all : ∀ N, N ≤ 6 → ((1 : Int32) <<< (nI N &&& 31)) = nI (2 ^ N) := by decide +kernel
theorem pop_all : ∀ n, n ≤ 6 → popN (2 ^ n - 1) = n ∧ ∀ k, k < 2 ^ n - 1 → popN k ≠ n := by decide +kernel
theorem lo_all : ∀ n, n ≤ 6 → ((1 : Int32) <<< (nI n &&& 31)) - 1 = nI (2 ^ n - 1) ∧ nI (2 ^ n - 1) + 1 = nI (2 ^ n) := by decide +kernel
theorem pop_6 {s : Nat} (h : s < 64) : popN s ≤ 6 := (kern_all s h).2.1
/-- the first m rounds of a loop, gone through -/
theorem iter_off {β γ : Type} {body : β → Option (β ⊕ γ)} (F : Nat → β) (n : Nat) : ∀ (m k : Nat), (∀ j, k ≤ j → j < k + m → body (F j) = some (.inl (F (j + 1)))) → iter body (m + n) (F k) = iter body n (F (k + m))
  | 0, k, _ => by rw [Nat.zero_add, Nat.add_zero]
  | m + 1, k, h => by
    rw [show m + 1 + n = (m + n) + 1 by omega, show k + (m + 1) = k + 1 + m by omega]
    show (body (F k)).bind _ = _
    rw [h k (Nat.le_refl k) (by omega)]
    exact iter_off F n m (k + 1) (fun j h1 h2 => h j (by omega) (by omega))
/-- two loops side by side, each with its own fuel -/
theorem iter_twoN {β γ β' γ' : Type} {body : β → Option (β ⊕ γ)} {body' : β' → Option (β' ⊕ γ')} {Out : γ → γ' → Prop} (S : Nat → β → β' → Prop) (N : Nat)
    (h : ∀ k v v', k ≤ N → S k v v' → (k < N ∧ ∃ w w', body v = some (.inl w) ∧ body' v' = some (.inl w') ∧ S (k + 1) w w') ∨ (∃ g g', body v = some (.inr g) ∧ body' v' = some (.inr g') ∧ Out g g')) :
    ∀ (j k : Nat), k + j = N → ∀ n n' v v', j < n → j < n' → S k v v' → ∃ g g', iter body n v = some g ∧ iter body' n' v' = some g' ∧ Out g g' := by
  intro j
  induction j with
  | zero =>
    intro k hk n n' v v' hn hn' hS
    obtain ⟨n, rfl⟩ : ∃ m, n = m + 1 := ⟨n - 1, by omega⟩
    obtain ⟨n', rfl⟩ : ∃ m, n' = m + 1 := ⟨n' - 1, by omega⟩
    rcases h k v v' (by omega) hS with ⟨h1, _⟩ | ⟨g, g', e1, e2, ho⟩
    · omega
    · refine ⟨g, g', ?_, ?_, ho⟩
      · show (body v).bind _ = _
        rw [e1]; rfl
      · show (body' v').bind _ = _
        rw [e2]; rfl
  | succ j ih =>
    intro k hk n n' v v' hn hn' hS
    obtain ⟨n, rfl⟩ : ∃ m, n = m + 1 := ⟨n - 1, by omega⟩
    obtain ⟨n', rfl⟩ : ∃ m, n' = m + 1 := ⟨n' - 1, by omega⟩
    rcases h k v v' (by omega) hS with ⟨h1, w, w', e1, e2, hS2⟩ | ⟨g, g', e1, e2, ho⟩
    · obtain ⟨g, g', i1, i2, ho⟩ := ih (k + 1) (by omega) n n' w w' (by omega) (by omega) hS2
      refine ⟨g, g', ?_, ?_, ho⟩
      · show (body v).bind _ = _
        rw [e1]; exact i1
      · show (body' v').bind _ = _
        rw [e2]; exact i2
    · refine ⟨g, g', ?_, ?_, ho⟩
      · show (body v).bind _ = _
        rw [e1]; rfl
      · show (body' v').bind _ = _
        rw [e2]; rfl
theorem s_learn {sc sm : St} (h : RR sc sm) (x : Int32) : Sim (f_X5_learn x sc) (f_X6_learn x sm) := by
  obtain ⟨N, hV, hB⟩ := R_V h
  have hN := hV.1
  have h2N : 2 ^ N ≤ 64 := Nat.pow_le_pow_right (by omega) hN
  unfold f_X5_learn f_X6_learn
  rcases t_ix 6 (by omega) x 6 (by decide +kernel) (sm := sm) with ⟨n, hn, rfl, e⟩ | ⟨e, q | ⟨q1, q2⟩⟩
  · rw [e]
    rw [if_neg (nI_pos (show n < 2 ^ 31 by omega)), n6, if_pos (nI_le hn (by omega))]
    simp only [b_s, z1, if_false, hV.2.1, hV.2.2.1, b_eta]
    by_cases hnN : ¬ n ≤ N
    · rw [if_neg (nI_ge (show N < n by omega) (by omega)), if_neg (nI_ge (show N < n by omega) (by omega))]
      exact ⟨-4, sc, sm, rfl, rfl, h⟩
    replace hnN := Decidable.not_not.mp hnN
    rw [if_pos (nI_le hnN (by omega)), if_pos (nI_le hnN (by omega))]
    have hnN2 : 2 ^ n ≤ 2 ^ N := Nat.pow_le_pow_right (by omega) hnN
    have hn0 : 0 < 2 ^ n := Nat.two_pow_pos n
    obtain ⟨lo1, lo2⟩ := lo_all n hn
    obtain ⟨pp1, pp2⟩ := pop_all n hn
    simp only [lw_e, lo1, lo2, e_week hV (show 2 ^ n - 1 < 64 by omega), b_s]
    have first : iter (fun v : Int32 × Int32 × St => l_X6_learn_28 (nI n) v.1 v.2.1 v.2.2) (2 ^ n + (5000 - 2 ^ n)) (-9, 0, sm) = iter (fun v : Int32 × Int32 × St => l_X6_learn_28 (nI n) v.1 v.2.1 v.2.2) (5000 - 2 ^ n) (nI (2 ^ n - 1), nI (2 ^ n), sm) := by
      have l := iter_off (body := fun v : Int32 × Int32 × St => l_X6_learn_28 (nI n) v.1 v.2.1 v.2.2) (fun k => (if k < 2 ^ n then (-9 : Int32) else nI (2 ^ n - 1), nI k, sm)) (5000 - 2 ^ n) (2 ^ n) 0 (by
        intro k _ hk
        rw [Nat.zero_add] at hk
        have hk64 : k < 64 := by omega
        have hp6 := pop_6 hk64
        dsimp only
        unfold l_X6_learn_28
        simp only [hV.2.2.1, sh_all N hN, if_neg (nI_ge (show k < 2 ^ N by omega) (show 2 ^ N < 2 ^ 31 by omega)), m_bits hk64, b_s, nI_1, if_pos hk]
        by_cases hl : k < 2 ^ n - 1
        · have hpe : ¬ nI (popN k) = nI n := fun z => pp2 k hl ((nI_eq (by omega) (by omega)).mp z)
          rw [if_neg hpe, if_pos (show k + 1 < 2 ^ n by omega)]
        · have hke : k = 2 ^ n - 1 := by omega
          have hpe : nI (popN k) = nI n := by rw [hke, pp1]
          rw [if_pos hpe, if_pos trivial, if_neg (show ¬ k + 1 < 2 ^ n by omega), ← hke])
      rw [if_pos hn0, Nat.zero_add, if_neg (Nat.lt_irrefl (2 ^ n)), nI_0] at l
      exact l
    obtain ⟨g, g', i1, i2, b, hb, o1, o2, o3, o4, o5⟩ := iter_twoN (body := fun v : Int32 × Int32 × Int32 × St => l_X5_learn_46 (nI n) v.1 v.2.1 v.2.2.1 v.2.2.2) (body' := fun v : Int32 × Int32 × St => l_X6_learn_28 (nI n) v.1 v.2.1 v.2.2)
      (Out := fun g g' => ∃ b, b < 64 ∧ g.1 = nI b ∧ g.2.1 = smF (wekF sm b) N ∧ g.2.2.2 = sc ∧ g'.1 = nI b ∧ g'.2.2 = sm)
      (fun k v v' => v.2.2 = (nI (2 ^ n + k), sc) ∧ v'.2 = (nI (2 ^ n + k), sm) ∧ ∃ b, b < 64 ∧ v.1 = nI b ∧ v.2.1 = smF (wekF sm b) N ∧ v'.1 = nI b) (2 ^ N - 2 ^ n) (by
        rintro k ⟨v1, v2, v3, t⟩ ⟨w1, w2, t'⟩ hk ⟨p1, p2, b, hb, a1, a2, a3⟩
        dsimp only at p1 p2 a1 a2 a3 ⊢
        cases p1
        cases p2
        unfold l_X5_learn_46 l_X6_learn_28
        rw [hV.2.1, hV.2.2.1, sh_all N hN]
        by_cases hkn : k < 2 ^ N - 2 ^ n
        · left
          refine ⟨hkn, ?_⟩
          have hk64 : 2 ^ n + k < 64 := by omega
          have hp6 := pop_6 hk64
          simp only [if_neg (nI_ge (show 2 ^ n + k < 2 ^ N by omega) (show 2 ^ N < 2 ^ 31 by omega)), e_week hV hk64, e_bc hk64, m_bits hk64, b_s, nI_1]
          by_cases hp : popN (2 ^ n + k) = n
          · have hpe : nI (popN (2 ^ n + k)) = nI n := by rw [hp]
            simp only [if_pos hpe]
            have h9 : ¬ nI b = -9 := by
              intro q
              have := congrArg Int32.toInt q
              rw [nI_toInt (by omega)] at this
              have e9 : (-9 : Int32).toInt = -9 := by decide
              omega
            rw [a2, a3, if_neg h9]
            simp only [m_week hN hV.2.2.1 hk64, m_week hN hV.2.2.1 hb, b_s]
            by_cases hle : smF (wekF sm b) N ≤ smF (wekF sm (2 ^ n + k)) N
            · simp only [if_pos hle]
              exact ⟨_, _, rfl, rfl, rfl, rfl, b, hb, a1, rfl, rfl⟩
            · simp only [if_neg hle]
              exact ⟨_, _, rfl, rfl, rfl, rfl, 2 ^ n + k, hk64, rfl, rfl, rfl⟩
          · have hpe : ¬ nI (popN (2 ^ n + k)) = nI n := fun z => hp ((nI_eq (by omega) (by omega)).mp z)
            simp only [if_neg hpe]
            exact ⟨_, _, rfl, rfl, rfl, rfl, b, hb, a1, a2, a3⟩
        · right
          have hke : 2 ^ n + k = 2 ^ N := by omega
          rw [hke, if_pos (nI_le (Nat.le_refl (2 ^ N)) (by omega)), if_pos (nI_le (Nat.le_refl (2 ^ N)) (by omega))]
          exact ⟨_, _, rfl, rfl, b, hb, a1, a2, rfl, a3, rfl⟩) (2 ^ N - 2 ^ n) 0 (by omega) 5000 (5000 - 2 ^ n) (nI (2 ^ n - 1), smF (wekF sm (2 ^ n - 1)) N, nI (2 ^ n), sc) (nI (2 ^ n - 1), nI (2 ^ n), sm) (by omega) (by omega) ⟨rfl, rfl, 2 ^ n - 1, by omega, rfl, rfl, rfl⟩
    have i2' := first.trans i2
    rw [show 2 ^ n + (5000 - 2 ^ n) = fuel by rw [fuel_eq]; omega] at i2'
    rw [← fuel_eq] at i1
    rw [i1, i2']
    simp only [b_s, ls_e, o1, o2, o3, o4, o5, m_week hN hV.2.2.1 hb]
    unfold f_X6_tells
    exact ⟨nI b, _, _, rfl, rfl, s_ask h _⟩
  · rw [e]
    simp only [b_s, if_true, if_pos q]
    exact ⟨-1, sc, sm, rfl, rfl, h⟩
  · rw [e]
    have : ¬ x ≤ 6 := by
      intro z
      have a := Int32.le_iff_toInt_le.mp q2
      have b := Int32.le_iff_toInt_le.mp z
      rw [nI_toInt (by omega)] at a
      have e6 : (6 : Int32).toInt = 6 := by decide
      omega
    simp only [b_s, if_true, if_neg q1, if_neg this]
    exact ⟨-1, sc, sm, rfl, rfl, h⟩
/-! APART -/
theorem in_lo {x lo hi : Int32} {sm : St} (e : f_X6_in x 0 hi sm = some (0, sm)) (hl : 0 ≤ lo) : f_X6_in x lo hi sm = some (0, sm) := by
  rw [m_in] at e ⊢
  by_cases h1 : x < lo
  · rw [if_pos h1]
  · rw [if_neg h1]
    by_cases h2 : hi < x
    · rw [if_pos h2]
    · exfalso
      by_cases h3 : x < 0
      · exact h1 (Int32.lt_of_lt_of_le h3 hl)
      · rw [if_neg h3, if_neg h2] at e
        have := congrArg (fun o : Option (Int32 × St) => o.map Prod.fst) e
        simp at this
theorem s_apart {sc sm : St} (h : RR sc sm) (x y a b : Int32) : Sim (f_X5_apart x y a b sc) (f_X6_apart x y a b sm) := by
  obtain ⟨N, hV, hB⟩ := R_V h
  unfold f_X5_apart f_X6_apart f_X5_areTwo
  rcases (t_reg hV x).symm with ⟨e1, e2⟩ | ⟨p, hp, rfl, e1, e2⟩
  · simp only [e1, e2, b_s, if_true]
    exact ⟨-1, sc, sm, rfl, rfl, h⟩
  rcases (t_reg hV y).symm with ⟨d1, d2⟩ | ⟨q, hq, rfl, d1, d2⟩
  · simp only [e1, e2, d1, d2, b_s, z1, if_false, if_true]
    exact ⟨-1, sc, sm, rfl, rfl, h⟩
  have hp6 : p < 6 := by have := hV.1; omega
  have hq6 : q < 6 := by have := hV.1; omega
  obtain ⟨v0, -, -, v3, v4, -⟩ := hV.2.2.2.2.2 p hp
  obtain ⟨w0, -, -, w3, w4, -⟩ := hV.2.2.2.2.2 q hq
  simp only [e1, e2, d1, d2, b_s, z1, if_false]
  by_cases e : nI p = nI q
  · simp only [if_pos e, b_s, if_true]
    exact ⟨-1, sc, sm, rfl, rfl, h⟩
  simp only [if_neg e, b_s, z1, if_false]
  rcases (t_morn a sc sm).symm with ⟨f1, f2⟩ | ⟨i, hi, rfl, f1, f2⟩
  · simp only [f1, f2, b_s, if_true]
    exact ⟨-1, sc, sm, rfl, rfl, h⟩
  rcases (t_morn b sc sm).symm with ⟨g1, g2⟩ | ⟨j, hj, rfl, g1, g2⟩
  · simp only [f1, f2, g1, in_lo g2 (nI_pos' (show i < 2 ^ 31 by omega)), b_s, z1, if_false, if_true]
    exact ⟨-1, sc, sm, rfl, rfl, h⟩
  simp only [f1, f2, g1, b_s, z1, if_false]
  rw [m_in]
  by_cases hij : ¬ i ≤ j
  · rw [if_neg (nI_ge (show j < i by omega) (by omega)), if_pos (nI_lt (show j < i by omega) (by omega))]
    exact ⟨-1, sc, sm, rfl, rfl, h⟩
  replace hij := Decidable.not_not.mp hij
  rw [if_pos (nI_le hij (by omega)), if_neg (nI_nlt hij (by omega)), show (999 : Int32) = nI 999 by decide +kernel, if_neg (nI_nlt hj (by omega))]
  simp only [b_s, z1, if_false]
  obtain ⟨g, g', i1, i2, ho⟩ := iter_two (body := fun v : Int32 × St => l_X5_apart_35 (nI p) (nI q) (nI i) (nI j) v.1 v.2) (body' := fun v : Int32 × St => l_X6_apart_49 (nI p) (nI q) (nI i) (nI j) v.1 v.2)
    (Out := fun g g' => (∃ r, g = .inl (r, sc) ∧ g' = .inl (r, sm)) ∨ ∃ r, g = .inr (r, sc) ∧ g' = .inr (r, sm))
    (fun k v v' => v = (nI (i + k), sc) ∧ v' = (nI (i + k), sm)) (j + 1 - i) (by omega) (by
      rintro k v v' hk ⟨rfl, rfl⟩
      dsimp only
      unfold l_X5_apart_35 l_X6_apart_49
      by_cases hkn : k < j + 1 - i
      · simp only [if_n (nI_nlt (show i + k ≤ j by omega) (show j < 2 ^ 31 by omega)), gd_i _ hp6 (show 6 < 2 ^ 31 by omega), gd_i _ hq6 (show 6 < 2 ^ 31 by omega), nI_clamp (show p < 2 ^ 31 by omega), nI_clamp (show q < 2 ^ 31 by omega), e_wan, m_wan hp6, m_wan hq6, b_s, v0, v3, v4, w0, w3, w4, nI_1]
        by_cases hw : wanF (sm.1 7 p) (sm.1 10 p) (sm.1 11 p) (nI (i + k)) = wanF (sm.1 7 q) (sm.1 10 q) (sm.1 11 q) (nI (i + k))
        · left
          simp only [if_pos hw]
          exact ⟨hkn, _, _, rfl, rfl, rfl, rfl⟩
        · right
          simp only [if_neg hw]
          exact ⟨_, _, rfl, rfl, Or.inl ⟨_, rfl, rfl⟩⟩
      · right
        rw [if_pos (nI_lt (show j < i + k by omega) (by omega)), if_pos (nI_lt (show j < i + k by omega) (by omega))]
        exact ⟨_, _, rfl, rfl, Or.inr ⟨_, rfl, rfl⟩⟩) (v := (nI i, sc)) (v' := (nI i, sm)) ⟨rfl, rfl⟩
  rw [i1, i2]
  rcases ho with ⟨r, rfl, rfl⟩ | ⟨r, rfl, rfl⟩
  · exact ⟨r, sc, sm, rfl, rfl, h⟩
  · exact ⟨-9, sc, sm, rfl, rfl, h⟩
/-! OTHER -/
theorem s_other {sc sm : St} (h : RR sc sm) (x y : Int32) : Sim (f_X5_other x y sc) (f_X6_other x y sm) := by
  obtain ⟨N, hV, hB⟩ := R_V h
  unfold f_X5_other f_X6_other
  rcases (t_reg hV x).symm with ⟨e1, e2⟩ | ⟨p, hp, rfl, e1, e2⟩
  · simp only [e1, e2, b_s, if_true]
    exact ⟨-1, sc, sm, rfl, rfl, h⟩
  rcases (t_thing y sc sm).symm with ⟨d1, d2⟩ | ⟨t, ht, rfl, d1, d2⟩
  · simp only [e1, e2, d1, d2, b_s, z1, if_false, if_true]
    exact ⟨-1, sc, sm, rfl, rfl, h⟩
  have hp6 : p < 6 := by have := hV.1; omega
  obtain ⟨M, hRV, hRN, ⟨T, hRT⟩, hRK⟩ := h.1
  have hMN : M = N := by
    have a := hRV.2.1.symm.trans hV.2.1
    have := hRV.1
    have := hV.1
    exact (nI_eq (by omega) (by omega)).mp a
  subst hMN
  have hT60 := hRT.1
  simp only [e1, e2, d1, d2, b_s, z1, if_false, hRT.2.1, hRT.2.2.1]
  by_cases hT : ¬ T = 0
  · have : ¬ nI T ≤ 0 := nI_nle (by omega) (by omega)
    simp only [if_neg this]
    exact ⟨-4, sc, sm, rfl, rfl, h⟩
  replace hT := Decidable.not_not.mp hT
  subst hT
  have h00 : nI 0 ≤ 0 := by decide +kernel
  simp only [if_pos h00, gd_i _ hp6 (show 6 < 2 ^ 31 by omega), nI_clamp (show p < 2 ^ 31 by omega), lw_e, ls_e]
  refine ⟨sc.1 (17 + p) 4, _, _, rfl, by rw [(hV.2.2.2.2.2 p hp).2.2.2.2.1], ?_⟩
  have n17 : ∀ k, k < 17 → k ≠ 17 + p := fun k hk => by omega
  refine ⟨⟨M, ⟨hRV.1, by rw [sA_n (n17 15 (by omega))]; exact hRV.2.1, by rw [sA_n (by omega)]; exact hRV.2.2.1, fun q hq => ?_⟩, ⟨fun q hq => ?_, ?_, ?_⟩, ⟨0, ?_⟩, fun k hk => ?_⟩, RO_congr (fun k h1 h2 => sA_n (by omega)) (sA_n (by omega)) (sA_n (by omega)) h.2.1, RX_congr (fun k h1 h2 => sA_n (by omega)) (sA_n (by omega)) (sA_n (by omega)) h.2.2.1, ?_⟩
  · obtain ⟨f1, f2, f3, f4⟩ := hRV.2.2.2 q hq
    refine ⟨fun j hj => ?_, by rw [sA_n (by omega)]; exact f2, by rw [sA_n (by omega)]; exact f3, by rw [sA_n (by omega)]; exact f4⟩
    by_cases e : q = p
    · subst e
      rw [sA_k]
      by_cases ej : j = 4
      · subst ej
        rw [pk_us, show 7 + 4 = 11 by omega, sA_k, pk_us]
      · rw [pk_un ej, sA_n (by omega)]
        exact f1 j hj
    · rw [sA_n (by omega)]
      by_cases ej : j = 4
      · subst ej
        rw [show 7 + 4 = 11 by omega, sA_k, pk_un e]
        exact f1 4 (by omega)
      · rw [sA_n (by omega)]
        exact f1 j hj
  · have := hRN.1 q hq
    rw [sA_n (show (14 : Nat) ≠ 11 by omega)]
    by_cases e : q = p
    · subst e
      rw [sA_k, pk_un (by omega), pk_un (by omega)]
      exact this
    · rw [sA_n (by omega)]
      exact this
  · rw [sA_n (n17 15 (by omega)), sA_n (by omega)]; exact hRN.2.1
  · rw [sA_n (n17 15 (by omega)), sA_n (by omega)]; exact hRN.2.2
  · refine ⟨by omega, by rw [sA_n (by omega)]; exact hRT.2.1, by rw [sA_n (by omega)]; exact hRT.2.2.1, fun i hi => by omega, fun j hj => ?_, fun i hi => by omega⟩
    rw [sA_n (show (14 : Nat) ≠ 11 by omega)]
    exact hRT.2.2.2.2.1 j hj
  · have := hRK k hk
    unfold RK RK1 at this ⊢
    rw [sA_n (show 24 + k ≠ 17 + p by omega), sA_n (show 30 + k ≠ 17 + p by omega), sA_n (show 27 + k ≠ 17 + p by omega), sA_n (show 34 + k ≠ 17 + p by omega), sA_n (show 38 + k ≠ 17 + p by omega), sA_n (show (16 : Nat) ≠ 11 by omega), sA_n (show (17 : Nat) ≠ 11 by omega), sA_n (show (18 : Nat) ≠ 11 by omega), sA_n (show (19 : Nat) ≠ 11 by omega), sA_n (show (20 : Nat) ≠ 11 by omega), sA_n (show (7 : Nat) ≠ 11 by omega), sA_n (show (10 : Nat) ≠ 11 by omega)]
    exact this
  · obtain ⟨f1, f2, f3, f4, f5⟩ := h.2.2.2
    unfold RF
    rw [sA_n (n17 0 (by omega)), sA_n (show 43 ≠ 17 + p by omega), sA_n (show (0 : Nat) ≠ 11 by omega), sA_n (show (1 : Nat) ≠ 11 by omega)]
    exact ⟨f1, f2, f3, f4, f5⟩
