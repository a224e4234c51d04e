/-! CHANCES in lowest terms -/
theorem cmp0 {b : Nat} (hb : b < 2 ^ 63) : (lg_cmp (lN b) 0 = 0) ↔ b = 0 := by
  have e : (0 : Int64) = lN 0 := by decide +kernel
  unfold lg_cmp
  rw [e]
  rcases Nat.eq_zero_or_pos b with q | q
  · subst q
    rw [if_neg (fun z => absurd ((pk_lLT (by omega) (by omega)).mp z) (by omega)), if_pos rfl]
    simp
  · rw [if_pos ((pk_lLT (by omega) hb).mpr q)]
    constructor
    · intro z; exact absurd z (by decide)
    · intro z; omega
theorem s_long {sc sm : St} (h : RR sc sm) (a b : Int64) : RR (sL (sL sc 0 a) 1 b) (sL (sL sm 0 a) 1 b) := by
  refine R_F h (fun _ _ _ => rfl) (fun _ _ _ _ _ => rfl) rfl rfl ?_
  obtain ⟨f1, f2, f3, -, -⟩ := h.2.2.2
  exact ⟨f1, f2, f3, rfl, rfl⟩
theorem mod_half {a b : Nat} (hb : 0 < b) (h : b < a) : 2 * (a % b) ≤ a := by
  have h1 := Nat.mod_lt a hb
  have h2 := Nat.div_add_mod a b
  have h3 : 1 ≤ a / b := (Nat.one_le_div_iff hb).mpr (by omega)
  have h4 : b * 1 ≤ b * (a / b) := Nat.mul_le_mul_left b h3
  omega
theorem eu_step {a b k : Nat} (hb : 0 < b) (hl : b ≤ 200000) (h : k = 0 ∨ (b < a ∧ a * b * 2 ^ (k - 1) ≤ 40000000000)) : a % b < b ∧ b * (a % b) * 2 ^ k ≤ 40000000000 := by
  refine ⟨Nat.mod_lt a hb, ?_⟩
  rcases h with rfl | ⟨h1, h2⟩
  · have := Nat.mul_le_mul hl (Nat.le_of_lt (Nat.lt_of_lt_of_le (Nat.mod_lt a hb) hl))
    omega
  · cases k with
    | zero =>
      have := Nat.mul_le_mul hl (Nat.le_of_lt (Nat.lt_of_lt_of_le (Nat.mod_lt a hb) hl))
      omega
    | succ k =>
      have e : b * (a % b) * 2 ^ (k + 1) = (2 * (a % b)) * b * 2 ^ k := by
        rw [Nat.pow_succ, Nat.mul_comm b (a % b), Nat.mul_comm 2 (a % b), Nat.mul_assoc, Nat.mul_assoc, Nat.mul_assoc, ← Nat.mul_assoc 2 b, Nat.mul_comm 2 b, Nat.mul_assoc b 2, Nat.mul_comm (2 ^ k) 2]
      rw [e]
      refine Nat.le_trans ?_ h2
      exact Nat.mul_le_mul_right _ (Nat.mul_le_mul_right b (mod_half hb h1))
theorem eu_end {a b : Nat} (ha : 0 < a) (hb : 0 < b) (h : a * b * 2 ^ 39 ≤ 40000000000) : False := by
  have h1 : 1 ≤ a * b := Nat.mul_pos ha hb
  have h2 : 1 * 2 ^ 39 ≤ a * b * 2 ^ 39 := Nat.mul_le_mul_right _ h1
  omega
theorem gcd_step (a b : Nat) : Nat.gcd b (a % b) = Nat.gcd a b := by
  rw [Nat.gcd_comm a b, Nat.gcd_rec b a, Nat.gcd_comm]
theorem e_gcd {u l : Nat} (hu : u ≤ 1000000) (hl : l ≤ 200000) (hl0 : 0 < l) (st : St) : f_X5_commonDivisor (lN u) (lN l) st = some (lN (Nat.gcd u l), st) := by
  unfold f_X5_commonDivisor
  obtain ⟨g, e, h1, h2⟩ := iter_inv (body := fun v : Int64 × Int64 × Int32 × St => l_X5_commonDivisor_9 (lN u) (lN l) v.1 v.2.1 v.2.2.1 v.2.2.2) (Out := fun g => g.1 = lN (Nat.gcd u l) ∧ g.2.2.2 = st)
    (fun k v => ∃ a b, v = (lN a, lN b, nI k, st) ∧ Nat.gcd a b = Nat.gcd u l ∧ a ≤ 1000000 ∧ b ≤ 200000 ∧ (k = 0 ∨ (b < a ∧ a * b * 2 ^ (k - 1) ≤ 40000000000))) 40 (by omega) (by
      rintro k v hk ⟨a, b, rfl, hg, ha, hb, hc⟩
      dsimp only
      unfold l_X5_commonDivisor_9
      rw [show (200 : Int32) = nI 200 by decide +kernel, if_neg (nI_ge (show k < 200 by omega) (by omega))]
      by_cases hz : b = 0
      · right
        refine ⟨(lN a, lN b, nI k, st), by rw [if_pos ((cmp0 (by omega)).mpr hz)], ?_, rfl⟩
        dsimp only
        rw [← hg, hz, Nat.gcd_zero_right]
      · left
        have hb0 : 0 < b := Nat.pos_of_ne_zero hz
        refine ⟨?_, (lN b, lN (a % b), nI (k + 1), st), ?_, b, a % b, rfl, by rw [gcd_step]; exact hg, by omega, ?_, Or.inr ?_⟩
        · rcases Nat.lt_or_ge k 40 with q | q
          · exact q
          · exfalso
            have : k = 40 := by omega
            subst this
            rcases hc with hc | ⟨hc1, hc2⟩
            · omega
            · exact eu_end (by omega) hb0 hc2
        · have hn : nzl (lN b) = true := by
            unfold nzl
            simp only [decide_eq_true_eq]
            intro q
            exact hz ((pk_lEQ (a := b) (b := 0) (by omega) (by omega)).mp (q.trans (by decide +kernel)))
          rw [if_neg (fun z => hz ((cmp0 (by omega)).mp z)), gd_t _ hn, lw_e, pk_lRem (by omega) hb0 (by omega), nI_1]
        · have := Nat.mod_lt a hb0
          omega
        · exact eu_step hb0 hb hc) (v := (lN u, lN l, 0, st)) ⟨u, l, by rw [nI_0], rfl, hu, hl, Or.inl rfl⟩
  rw [e, b_s, h1, h2]
theorem m_gcd {u l : Nat} (hu : u ≤ 1000000) (hl : l ≤ 200000) (hl0 : 0 < l) (st : St) : ∃ g : Int32 × Int32 × St, iter (fun v : Int32 × Int32 × St => l_X6_fraction_5 (nI u) (nI l) v.1 v.2.1 v.2.2) fuel (nI u, nI l, st) = some g ∧ g.1 = nI (Nat.gcd u l) ∧ g.2.2 = st := by
  refine iter_inv (body := fun v : Int32 × Int32 × St => l_X6_fraction_5 (nI u) (nI l) v.1 v.2.1 v.2.2) (Out := fun g => g.1 = nI (Nat.gcd u l) ∧ g.2.2 = st)
    (fun k v => ∃ a b, v = (nI a, nI b, st) ∧ Nat.gcd a b = Nat.gcd u l ∧ a ≤ 1000000 ∧ b ≤ 200000 ∧ (k = 0 ∨ (b < a ∧ a * b * 2 ^ (k - 1) ≤ 40000000000))) 40 (by omega) (by
      rintro k v hk ⟨a, b, rfl, hg, ha, hb, hc⟩
      dsimp only
      unfold l_X6_fraction_5
      by_cases hz : b = 0
      · right
        refine ⟨(nI a, nI b, st), by rw [if_pos (by rw [hz]; exact nI_0)], ?_, rfl⟩
        dsimp only
        rw [← hg, hz, Nat.gcd_zero_right]
      · left
        have hb0 : 0 < b := Nat.pos_of_ne_zero hz
        refine ⟨?_, (nI b, nI (a % b), st), ?_, b, a % b, rfl, by rw [gcd_step]; exact hg, by omega, ?_, Or.inr ?_⟩
        · rcases Nat.lt_or_ge k 40 with q | q
          · exact q
          · exfalso
            have : k = 40 := by omega
            subst this
            rcases hc with hc | ⟨hc1, hc2⟩
            · omega
            · exact eu_end (by omega) hb0 hc2
        · have hn : nz (nI b) = true := by
            unfold nz
            simp only [decide_eq_true_eq]
            exact nI_ne0 hb0 (by omega)
          rw [if_neg (nI_ne0 hb0 (by omega)), gd_t _ hn, lw_e, pk_rem (by omega) hb0 (by omega)]
        · have := Nat.mod_lt a hb0
          omega
        · exact eu_step hb0 hb hc) (v := (nI u, nI l, st)) ⟨u, l, rfl, rfl, hu, hl, Or.inl rfl⟩
theorem t_tell {sc sm : St} (h : RR sc sm) {u l : Nat} (hu : u ≤ 1000000) (hl : l ≤ 200000) (hl0 : 0 < l) : ∃ sc' sm', f_X5_tell (lN u) (lN l) sc = some sc' ∧ f_X6_fraction (nI u) (nI l) sm = some (1, sm') ∧ RR sc' sm' := by
  have hg0 : 0 < Nat.gcd u l := Nat.gcd_pos_of_pos_right u hl0
  have hgl : Nat.gcd u l ≤ l := Nat.le_of_dvd hl0 (Nat.gcd_dvd_right u l)
  have hn : nzl (lN (Nat.gcd u l)) = true := by
    unfold nzl
    simp only [decide_eq_true_eq]
    intro q
    have := (pk_lEQ (a := Nat.gcd u l) (b := 0) (by omega) (by omega)).mp (q.trans (by decide +kernel))
    omega
  have hn2 : nz (nI (Nat.gcd u l)) = true := by
    unfold nz
    simp only [decide_eq_true_eq]
    exact nI_ne0 hg0 (by omega)
  obtain ⟨g, e, h1, h2⟩ := m_gcd hu hl hl0 sm
  refine ⟨_, _, ?_, ?_, s_long h (lN (u / Nat.gcd u l)) (lN (l / Nat.gcd u l))⟩
  · unfold f_X5_tell
    have hc : ¬ lg_cmp (lN (Nat.gcd u l)) 0 ≤ 0 := by
      rw [show (0 : Int64) = lN 0 by decide +kernel, cmp_le (by omega) (by omega)]
      omega
    rw [e_gcd hu hl hl0, b_s]
    simp only [if_neg hc, gd_t _ hn, ls_e, pk_lDiv (show u < 2 ^ 63 by omega) hg0 (show Nat.gcd u l < 2 ^ 63 by omega), pk_lDiv (show l < 2 ^ 63 by omega) hg0 (show Nat.gcd u l < 2 ^ 63 by omega)]
  · unfold f_X6_fraction
    rw [e, b_s]
    have d1 : u / Nat.gcd u l ≤ u := Nat.div_le_self _ _
    have d2 : l / Nat.gcd u l ≤ l := Nat.div_le_self _ _
    simp only [h1, h2, gd_t _ hn2, ls_e, pk_div (show u < 2 ^ 31 by omega) hg0 (show Nat.gcd u l < 2 ^ 31 by omega), pk_div (show l < 2 ^ 31 by omega) hg0 (show Nat.gcd u l < 2 ^ 31 by omega), nI_l (show u / Nat.gcd u l < 2 ^ 31 by omega), nI_l (show l / Nat.gcd u l < 2 ^ 31 by omega)]
/-! bounds of the sums -/
theorem com_n {N : Nat} {sm : St} (hB : VB N sm) (s : Nat) : ∀ k, k ≤ N → ∃ u, smF (comF sm s) k = nI u ∧ u ≤ 9 * k ∧ ((∃ p, p < k ∧ s.testBit p = true) → 1 ≤ u)
  | 0, _ => ⟨0, nI_0.symm, by omega, fun ⟨p, hp, _⟩ => by omega⟩
  | k + 1, hk => by
    obtain ⟨u, e, h1, h2⟩ := com_n hB s k (by omega)
    obtain ⟨-, -, c, c1, c2, c3⟩ := hB k (by omega)
    show ∃ u, smF (comF sm s) k + comF sm s k = nI u ∧ _
    by_cases hb : s.testBit k = true
    · refine ⟨u + c, ?_, by omega, fun _ => by omega⟩
      unfold comF at e ⊢
      rw [e, if_pos hb, c3, nI_add]
    · refine ⟨u, ?_, by omega, fun ⟨p, hp, hq⟩ => h2 ⟨p, ?_, hq⟩⟩
      · unfold comF at e ⊢
        rw [e, if_neg hb, add0]
      · rcases Nat.lt_or_ge p k with q | q
        · exact q
        · have : p = k := by omega
          subst this
          exact absurd hq hb
theorem ask_n (s : Int32) : ∃ t, t ≤ 40 ∧ askF s = nI t := by
  unfold askF
  split
  · exact ⟨40, by omega, by decide +kernel⟩
  · exact ⟨30, by omega, by decide +kernel⟩
theorem tak_n (kd us ot s m th : Int32) : ∃ t, t ≤ 69 ∧ takF kd us ot s m th = nI t := by
  unfold takF wroF
  obtain ⟨a, ha, ea⟩ := ask_n s
  have n9 : (9 : Int32) = nI 9 := by decide +kernel
  rw [ea]
  split
  · exact ⟨a, by omega, rfl⟩
  · split
    · exact ⟨9, by omega, n9⟩
    · split
      · split
        · exact ⟨9 + a + 20, by omega, by rw [n9, nI_add, show (20 : Int32) = nI 20 by decide +kernel, nI_add]⟩
        · exact ⟨9 + a + 10, by omega, by rw [n9, nI_add, show (10 : Int32) = nI 10 by decide +kernel, nI_add]⟩
      · exact ⟨9, by omega, n9⟩
theorem sec_n {N : Nat} {sm : St} (hB : VB N sm) (s : Nat) (th : Int32) : ∀ k, k ≤ N → ∃ u, smF (secF sm s th) k = nI u ∧ u ≤ 621 * k
  | 0, _ => ⟨0, nI_0.symm, by omega⟩
  | k + 1, hk => by
    obtain ⟨u, e, h1⟩ := sec_n hB s th k (by omega)
    obtain ⟨-, -, c, c1, c2, c3⟩ := hB k (by omega)
    obtain ⟨t, t1, t2⟩ := tak_n (sm.1 7 k) (sm.1 10 k) (sm.1 11 k) (sm.1 14 k) (sm.1 14 12) th
    show ∃ u, smF (secF sm s th) k + secF sm s th k = nI u ∧ _
    by_cases hb : s.testBit k = true
    · refine ⟨u + c * t, ?_, ?_⟩
      · rw [e]
        unfold secF takS
        rw [if_pos hb, c3, t2, pk_mul, nI_add]
      · have : c * t ≤ 9 * 69 := Nat.mul_le_mul c2 t1
        omega
    · refine ⟨u, ?_, by omega⟩
      rw [e]
      unfold secF
      rw [if_neg hb, add0]
theorem sN_ne {f : Nat → Bool} : ∀ k, sN f k ≠ 0 → ∃ p, p < k ∧ f p = true
  | 0, h => absurd rfl h
  | k + 1, h => by
    by_cases hf : f k = true
    · exact ⟨k, by omega, hf⟩
    · rw [sN_no hf] at h
      obtain ⟨p, hp, e⟩ := sN_ne k h
      exact ⟨p, by omega, e⟩
theorem look_ne {N : Nat} {f : Nat → Bool} (hN : N ≤ 6) (h : ¬ nI (sN f N) = 0) : ∃ p, p < N ∧ (sN f N).testBit p = true := by
  obtain ⟨p, hp, e⟩ := sN_ne N (fun q => h (by rw [q]; exact nI_0))
  exact ⟨p, hp, by rw [sN_bit]; simp [hp, e]⟩
theorem s_likely {sc sm : St} (h : RR sc sm) (x y z : Int32) : Sim (f_X5_likely x y z sc) (f_X6_likely x y z sm) := by
  obtain ⟨N, hV, hB⟩ := R_V h
  have hN := hV.1
  have hs : sN (lookF sm x y) N < 64 := sN_64 hV.1
  unfold f_X5_likely f_X6_likely
  rcases t_sign x sc sm with ⟨e1, e2⟩ | ⟨e1, e2⟩
  · rcases t_sign y sc sm with ⟨d1, d2⟩ | ⟨d1, d2⟩
    · rcases t_thing z sc sm with ⟨j, hj, rfl, g1, g2⟩ | ⟨g1, g2⟩
      · simp only [e1, e2, d1, d2, g1, g2, b_s, z1, if_false, e_look hV, m_look hV.1 hV.2.2.1, b_eta]
        by_cases hz : nI (sN (lookF sm x y) N) = 0
        · simp only [if_pos hz]
          obtain ⟨sc', sm', f1, f2, h'⟩ := s_found h (x := 4) 4 (by omega) (by decide +kernel)
          exact ⟨-3, sc', sm', f1, f2, h'⟩
        · obtain ⟨u, u1, u2, -⟩ := com_n hB (sN (wntB sm (sN (lookF sm x y) N) (nI j)) N) N (Nat.le_refl N)
          obtain ⟨l, l1, l2, l3⟩ := com_n hB (sN (lookF sm x y) N) N (Nat.le_refl N)
          have l0 := l3 (look_ne hV.1 hz)
          obtain ⟨sc', sm', t1, t2, h'⟩ := t_tell h (u := u) (l := l) (by omega) (by omega) (by omega)
          simp only [if_neg hz, e_wanting hV hs, e_comes hV hs, m_wanting hV.1 hV.2.2.1 hs, m_comes hV.1 hV.2.2.1 (sN_64 hV.1), b_s, u1, l1, nI_l (show u < 2 ^ 31 by omega), nI_l (show l < 2 ^ 31 by omega), t1, t2]
          exact ⟨1, sc', sm', rfl, rfl, h'⟩
      · simp only [e1, e2, d1, d2, g1, g2, b_s, z1, if_false, if_true]
        exact ⟨-1, sc, sm, rfl, rfl, h⟩
    · simp only [e1, e2, d1, d2, b_s, z1, if_false, if_true]
      exact ⟨-1, sc, sm, rfl, rfl, h⟩
  · simp only [e1, e2, b_s, if_true]
    exact ⟨-1, sc, sm, rfl, rfl, h⟩
theorem s_takes {sc sm : St} (h : RR sc sm) (x y z : Int32) : Sim (f_X5_takes x y z sc) (f_X6_takes x y z sm) := by
  obtain ⟨N, hV, hB⟩ := R_V h
  have hN := hV.1
  have hs : sN (lookF sm x y) N < 64 := sN_64 hV.1
  unfold f_X5_takes f_X6_takes
  rcases t_sign x sc sm with ⟨e1, e2⟩ | ⟨e1, e2⟩
  · rcases t_sign y sc sm with ⟨d1, d2⟩ | ⟨d1, d2⟩
    · rcases t_laid z sc sm with ⟨-, g1, g2⟩ | ⟨g1, g2⟩
      · simp only [e1, e2, d1, d2, g1, g2, b_s, z1, if_false, e_look hV, m_look hV.1 hV.2.2.1, b_eta]
        by_cases hz : nI (sN (lookF sm x y) N) = 0
        · simp only [if_pos hz]
          obtain ⟨sc', sm', f1, f2, h'⟩ := s_found h (x := 4) 4 (by omega) (by decide +kernel)
          exact ⟨-3, sc', sm', f1, f2, h'⟩
        · obtain ⟨u, u1, u2⟩ := sec_n hB (sN (lookF sm x y) N) z N (Nat.le_refl N)
          obtain ⟨l, l1, l2, l3⟩ := com_n hB (sN (lookF sm x y) N) N (Nat.le_refl N)
          have l0 := l3 (look_ne hV.1 hz)
          obtain ⟨sc', sm', t1, t2, h'⟩ := t_tell h (u := u) (l := l) (by omega) (by omega) (by omega)
          simp only [if_neg hz, e_sec hV hs, e_comes hV hs, m_sec hV.1 hV.2.2.1 hs, m_comes hV.1 hV.2.2.1 hs, b_s, u1, l1, nI_l (show u < 2 ^ 31 by omega), nI_l (show l < 2 ^ 31 by omega), t1, t2]
          exact ⟨1, sc', sm', rfl, rfl, h'⟩
      · simp only [e1, e2, d1, d2, g1, g2, b_s, z1, if_false, if_true]
        exact ⟨-1, sc, sm, rfl, rfl, h⟩
    · simp only [e1, e2, d1, d2, b_s, z1, if_false, if_true]
      exact ⟨-1, sc, sm, rfl, rfl, h⟩
  · simp only [e1, e2, b_s, if_true]
    exact ⟨-1, sc, sm, rfl, rfl, h⟩
/-! odds -/
theorem e_pow {v n : Nat} (hn : n ≤ 3) (st : St) : f_X5_power (lN v) (nI n) st = some (lN (v ^ n), st) := by
  unfold f_X5_power
  have l := iter_fold (body := fun w : Int64 × Int32 × St => l_X5_power_5 (lN v) (nI n) w.1 w.2.1 w.2.2) (fun k => (lN (v ^ k), nI k, st)) n (lN (v ^ n), nI n, st) (by omega) (fun k hk => by
    dsimp only
    unfold l_X5_power_5
    rw [if_neg (nI_ge hk (by omega)), lw_e, nI_1, lN_mul, Nat.pow_succ]) (by
    dsimp only
    unfold l_X5_power_5
    rw [if_pos (nI_le (Nat.le_refl n) (by omega))])
  have l' : iter (fun w : Int64 × Int32 × St => l_X5_power_5 (lN v) (nI n) w.1 w.2.1 w.2.2) fuel (1, 0, st) = _ := l
  rw [l']
  rfl
theorem m_pow {v n : Nat} (hn : n ≤ 3) (st : St) : f_X6_power (nI v) (nI n) st = some (nI (v ^ n), st) := by
  unfold f_X6_power
  have l := iter_fold (body := fun w : Int32 × Int32 × St => l_X6_power_4 (nI v) (nI n) w.1 w.2.1 w.2.2) (fun k => (nI (v ^ k), nI k, st)) n (nI (v ^ n), nI n, st) (by omega) (fun k hk => by
    dsimp only
    unfold l_X6_power_4
    rw [if_neg (nI_ge hk (by omega)), lw_e, nI_1, pk_mul, Nat.pow_succ]) (by
    dsimp only
    unfold l_X6_power_4
    rw [if_pos (nI_le (Nat.le_refl n) (by omega))])
  have l' : iter (fun w : Int32 × Int32 × St => l_X6_power_4 (nI v) (nI n) w.1 w.2.1 w.2.2) fuel (1, 0, st) = _ := l
  rw [l']
  rfl
def nS (f : Nat → Nat) : Nat → Nat
  | 0 => 0
  | k + 1 => nS f k + f k
theorem nS_le {f : Nat → Nat} {B : Nat} (h : ∀ i, f i ≤ B) : ∀ k, nS f k ≤ B * k
  | 0 => by show 0 ≤ B * 0; omega
  | k + 1 => by
    show nS f k + f k ≤ B * (k + 1)
    have := nS_le h k
    have := h k
    rw [Nat.mul_succ]
    omega
theorem pow_54 {v n : Nat} (hv : v ≤ 54) (hn : n ≤ 3) : v ^ n ≤ 157464 := Nat.le_trans (Nat.pow_le_pow_left hv n) (Nat.le_trans (Nat.pow_le_pow_right (by omega) hn) (by omega))
theorem s_odds {sc sm : St} (h : RR sc sm) (x : Int32) : Sim (f_X5_odds x sc) (f_X6_odds x sm) := by
  obtain ⟨N, hV, hB⟩ := R_V h
  have hN := hV.1
  have hs := p2_64 hV.1
  unfold f_X5_odds f_X6_odds
  rw [m_in]
  by_cases h1 : x < 1
  · simp only [if_pos h1, b_s, if_true]
    exact ⟨-1, sc, sm, rfl, rfl, h⟩
  by_cases h2 : ¬ x ≤ 3
  · have h2' : (3 : Int32) < x := Int32.not_le.mp h2
    simp only [if_neg h1, if_pos h2', if_neg h2, b_s, if_true]
    exact ⟨-1, sc, sm, rfl, rfl, h⟩
  replace h2 := Decidable.not_not.mp h2
  have h2' : ¬ (3 : Int32) < x := Int32.not_lt.mpr h2
  have h0 : ¬ x < 0 := fun q => h1 (Int32.lt_iff_toInt_lt.mpr (by
    have := Int32.lt_iff_toInt_lt.mp q
    show x.toInt < (1 : Int)
    have e : (0 : Int32).toInt = 0 := by decide
    omega))
  obtain ⟨n, hn, rfl⟩ := nI_of2 (M := 3) (n := 3) (by decide +kernel) h0 h2
  simp only [if_neg h1, if_neg h2', if_pos h2, b_s, z1, if_false, hV.2.1, hV.2.2.1]
  by_cases hz : nI N = 0
  · simp only [if_pos hz]
    exact ⟨-4, sc, sm, rfl, rfl, h⟩
  simp only [if_neg hz]
  have hN0 : 0 < N := Nat.pos_of_ne_zero (fun q => hz (by rw [q]; exact nI_0))
  unfold f_X3_everybody f_X6_everybody
  simp only [b_s, hV.2.1, hV.2.2.1, ev_all N hV.1]
  -- how often one of those who want a thing comes
  have hw : ∀ t, ∃ u, smF (comF sm (sN (wntB sm (2 ^ N - 1) (nI t)) N)) N = nI u ∧ u ≤ 54 := fun t => by
    obtain ⟨u, u1, u2, -⟩ := com_n hB (sN (wntB sm (2 ^ N - 1) (nI t)) N) N (Nat.le_refl N)
    exact ⟨u, u1, by omega⟩
  obtain ⟨W, hW⟩ : ∃ W : Nat → Nat, ∀ t, smF (comF sm (sN (wntB sm (2 ^ N - 1) (nI t)) N)) N = nI (W t) ∧ W t ≤ 54 := ⟨fun t => (hw t).choose, fun t => (hw t).choose_spec⟩
  have l1 := iter_fold (body := fun v : Int64 × Int32 × St => l_X5_odds_38 (nI n) (nI (2 ^ N - 1)) v.1 v.2.1 v.2.2) (fun k => (lN (nS (fun t => W t ^ n) k), nI k, sc)) 6 (lN (nS (fun t => W t ^ n) 6), nI 6, sc) (by omega) (fun k hk => by
    dsimp only
    unfold l_X5_odds_38
    have hk2 := (hW k).2
    rw [n6, if_neg (nI_ge hk (by omega)), e_wanting hV hs, b_s]
    dsimp only
    rw [(hW k).1, nI_l (by omega), e_pow hn, b_s]
    dsimp only
    rw [lw_e, lN_add, nI_1]
    rfl) (by
    dsimp only
    unfold l_X5_odds_38
    rw [n6, if_pos (nI_le (Nat.le_refl 6) (by omega))])
  have l1' : iter (fun v : Int64 × Int32 × St => l_X5_odds_38 (nI n) (nI (2 ^ N - 1)) v.1 v.2.1 v.2.2) fuel (0, 0, sc) = _ := l1
  have l2 := iter_fold (body := fun v : Int32 × Int32 × St => l_X6_odds_25 (nI n) v.1 v.2.1 v.2.2) (fun k => (nI (nS (fun t => W t ^ n) k), nI k, sm)) 6 (nI (nS (fun t => W t ^ n) 6), nI 6, sm) (by omega) (fun k hk => by
    dsimp only
    unfold l_X6_odds_25 f_X6_everybody
    rw [n6, if_neg (nI_ge hk (by omega)), b_s]
    dsimp only
    rw [hV.2.2.1, ev_all N hV.1, m_wanting hV.1 hV.2.2.1 hs, b_s]
    dsimp only
    rw [m_comes hV.1 hV.2.2.1 (sN_64 hV.1), b_s]
    dsimp only
    rw [(hW k).1, m_pow hn, b_s]
    dsimp only
    rw [lw_e, nI_add, nI_1]
    rfl) (by
    dsimp only
    unfold l_X6_odds_25
    rw [n6, if_pos (nI_le (Nat.le_refl 6) (by omega))])
  have l2' : iter (fun v : Int32 × Int32 × St => l_X6_odds_25 (nI n) v.1 v.2.1 v.2.2) fuel (0, 0, sm) = _ := l2
  obtain ⟨l, c1, c2, c3⟩ := com_n hB (2 ^ N - 1) N (Nat.le_refl N)
  have c0 : 1 ≤ l := c3 ⟨0, hN0, by rw [Nat.testBit_two_pow_sub_one]; simp [hN0]⟩
  have hp1 : nS (fun t => W t ^ n) 6 ≤ 157464 * 6 := nS_le (fun i => pow_54 (hW i).2 hn) 6
  have hp2 : l ^ n ≤ 157464 := pow_54 (by omega) hn
  obtain ⟨sc', sm', t1, t2, h'⟩ := t_tell h (u := nS (fun t => W t ^ n) 6) (l := l ^ n) (by omega) (by omega) (Nat.pow_pos c0)
  simp only [l1', l2', b_s, hV.2.2.1, ev_all N hV.1, e_comes hV hs, m_comes hV.1 hV.2.2.1 hs, c1, nI_l (show l < 2 ^ 31 by omega), e_pow hn, m_pow hn, t1, t2]
  exact ⟨1, sc', sm', rfl, rfl, h'⟩
