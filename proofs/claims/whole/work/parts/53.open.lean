/-! SHOP -/
theorem e_become {c0 q n i : Nat} {st : St} {b : Nat → Int32} (hq : c0 ≠ q) (hb : ∀ j, j < n → st.1 c0 j = b j) (hn : n ≤ 60) (hi : i + 6 ≤ n) : ∃ f, f_X2_become q c0 (nI i) st = some (sA st q f) ∧ f 0 = kF (b i) ∧ ∀ j, 1 ≤ j → j < 6 → f j = b (i + j) - 48 := by
  unfold f_X2_become
  rw [show (1 : Int32) = nI 1 by decide +kernel, show (2 : Int32) = nI 2 by decide +kernel, show (3 : Int32) = nI 3 by decide +kernel, show (4 : Int32) = nI 4 by decide +kernel, show (5 : Int32) = nI 5 by decide +kernel]
  simp only [nI_add, gd_i _ (show i < 60 by omega) (show 60 < 2 ^ 31 by omega), gd_i _ (show i + 1 < 60 by omega) (show 60 < 2 ^ 31 by omega), gd_i _ (show i + 2 < 60 by omega) (show 60 < 2 ^ 31 by omega), gd_i _ (show i + 3 < 60 by omega) (show 60 < 2 ^ 31 by omega), gd_i _ (show i + 4 < 60 by omega) (show 60 < 2 ^ 31 by omega), gd_i _ (show i + 5 < 60 by omega) (show 60 < 2 ^ 31 by omega), nI_clamp (show i < 2 ^ 31 by omega), nI_clamp (show i + 1 < 2 ^ 31 by omega), nI_clamp (show i + 2 < 2 ^ 31 by omega), nI_clamp (show i + 3 < 2 ^ 31 by omega), nI_clamp (show i + 4 < 2 ^ 31 by omega), nI_clamp (show i + 5 < 2 ^ 31 by omega), e_kind, b_s, ls_e, sA_sA, sA_k, sA_n hq, hb i (by omega), hb (i + 1) (by omega), hb (i + 2) (by omega), hb (i + 3) (by omega), hb (i + 4) (by omega), hb (i + 5) (by omega)]
  refine ⟨_, rfl, ?_, fun j j1 j6 => ?_⟩
  · rw [pk_un (by omega), pk_un (by omega), pk_un (by omega), pk_un (by omega), pk_un (by omega), pk_us]
  · rcases (show j = 1 ∨ j = 2 ∨ j = 3 ∨ j = 4 ∨ j = 5 by omega) with rfl | rfl | rfl | rfl | rfl
    · rw [pk_un (by omega), pk_un (by omega), pk_un (by omega), pk_un (by omega), pk_us]
    · rw [pk_un (by omega), pk_un (by omega), pk_un (by omega), pk_us]
    · rw [pk_un (by omega), pk_un (by omega), pk_us]
    · rw [pk_un (by omega), pk_us]
    · rw [pk_us]
/-- behind place i nothing but blanks is left -/
theorem scn_end {b : Nat → Int32} {n L t : Nat} (hV : SV b n L) (h : n < (scn b t).1 + 6 ∨ 6 ≤ (scn b t).2) : ∀ d, t + d ≤ L → (scn b (t + d)).2 = (scn b t).2 ∧ (scn b t).1 ≤ (scn b (t + d)).1
  | 0, _ => ⟨rfl, Nat.le_refl _⟩
  | d + 1, hd => by
    obtain ⟨h1, h2⟩ := scn_end hV h d (by omega)
    obtain ⟨h3, h4⟩ := hV (t + d) (by omega)
    have hsp : b (scn b (t + d)).1 = 32 := by
      rcases h4 with h4 | ⟨h4, h5⟩
      · exact h4
      · have := (h5 5 (by omega)).1
        omega
    rw [show t + (d + 1) = t + d + 1 by omega, scn_s hsp]
    exact ⟨h1, by dsimp only; omega⟩
def CLL (b : Nat → Int32) (L : Nat) (s : St) : Prop := ∀ t, t < L → ¬ b (scn b t).1 = 32 → s.1 (17 + (scn b t).2) 0 = kF (b (scn b t).1) ∧ ∀ j, 1 ≤ j → j < 6 → s.1 (17 + (scn b t).2) j = b ((scn b t).1 + j) - 48
theorem e_open {r n L T : Nat} {sc : St} {b : Nat → Int32} (hr : r < 4) (hn : n ≤ 60) (hL : L ≤ 60) (hbc : ∀ j, j < n → sc.1 (10 + r) j = b j) (hV : SV b n L) (hend : n ≤ (scn b L).1) (hT : sc.1 33 2 = nI T) (hT6 : T ≤ 60) :
    ∃ s, f_X3_open (10 + r) (nI n) sc = some s ∧ s.1 15 2 = nI (scn b L).2 ∧ s.1 15 3 = 0 ∧ s.1 15 4 = 0 ∧ s.1 33 2 = 0 ∧ (∀ p, p < (scn b L).2 → s.1 (17 + p) 6 = 0 ∧ s.1 (17 + p) 7 = 0) ∧ CLL b L s ∧ (∀ k, k ≠ 15 → ¬ (17 ≤ k ∧ k < 23) → k ≠ 33 → s.1 k = sc.1 k) ∧ s.2 = sc.2 := by
  unfold f_X3_open
  rw [ls_e]
  obtain ⟨g, e1, i, s, rfl, a1, a2, a3, a4⟩ := iter_inv (body := fun v : Int32 × St => l_X3_open_7 (10 + r) (nI n) v.1 v.2)
    (Out := fun g => ∃ i s, g = (i, s) ∧ s.1 15 2 = nI (scn b L).2 ∧ CLL b L s ∧ (∀ k, k ≠ 15 → ¬ (17 ≤ k ∧ k < 23) → s.1 k = sc.1 k) ∧ s.2 = sc.2)
    (fun t v => ∃ s, v = (nI (scn b t).1, s) ∧ t ≤ L ∧ s.1 15 2 = nI (scn b t).2 ∧ CLL b t s ∧ (∀ k, k ≠ 15 → ¬ (17 ≤ k ∧ k < 23) → s.1 k = sc.1 k) ∧ s.2 = sc.2) L (by omega) (fun t v ht hS => by
      obtain ⟨s, rfl, htL, h2, hC, hk, hs2⟩ := hS
      obtain ⟨hi, hm⟩ := SV_le (L := t) (fun u hu => hV u (by omega))
      dsimp only
      unfold l_X3_open_7
      rw [n6, nI_add, h2]
      by_cases hx : n < (scn b t).1 + 6 ∨ 6 ≤ (scn b t).2
      · refine Or.inr ⟨(nI (scn b t).1, s), ?_, _, s, rfl, ?_, ?_, hk, hs2⟩
        · rcases hx with hx | hx
          · rw [if_pos (nI_lt hx (by omega))]
          · by_cases hx' : n < (scn b t).1 + 6
            · rw [if_pos (nI_lt hx' (by omega))]
            · rw [if_neg (nI_nlt (by omega) (by omega)), if_pos (nI_le hx (by omega))]
        · have := (scn_end hV hx (L - t) (by omega)).1
          rw [show t + (L - t) = L by omega] at this
          rw [h2, this]
        · intro u hu hu2
          by_cases z : u < t
          · exact hC u z hu2
          · exfalso
            obtain ⟨y1, y2⟩ := scn_end hV hx (u - t) (by omega)
            rw [show t + (u - t) = u by omega] at y1 y2
            rcases (hV u hu).2 with z | ⟨z1, z2⟩
            · exact hu2 z
            · have := (z2 5 (by omega)).1
              omega
      · have hx1 : (scn b t).1 + 6 ≤ n := by omega
        have hx2 : (scn b t).2 < 6 := by omega
        have htL' : t < L := by
          by_cases z : t = L
          · subst z; omega
          · omega
        rw [if_neg (nI_nlt hx1 (by omega)), if_neg (nI_ge hx2 (by omega)), gd_i _ (show (scn b t).1 < 60 by omega) (by omega), nI_clamp (show (scn b t).1 < 2 ^ 31 by omega), gd_i _ hx2 (by omega), nI_clamp (show (scn b t).2 < 2 ^ 31 by omega)]
        have hbs : ∀ j, j < n → s.1 (10 + r) j = b j := fun j hj => by rw [hk (10 + r) (by omega) (by omega)]; exact hbc j hj
        rw [hbs _ (by omega)]
        by_cases hsp : b (scn b t).1 = 32
        · rw [if_pos hsp, nI_1]
          refine Or.inl ⟨htL', _, rfl, s, by rw [scn_s hsp], by omega, by rw [scn_s hsp]; exact h2, fun u hu hu2 => ?_, hk, hs2⟩
          by_cases e : u = t
          · subst e; exact absurd hsp hu2
          · exact hC u (by omega) hu2
        · rw [if_neg hsp]
          obtain ⟨f, g1, g2, g3⟩ := e_become (q := 17 + (scn b t).2) (st := s) (by omega) hbs hn hx1
          rw [g1, b_s, ls_e, sA_n (show (15 : Nat) ≠ 17 + (scn b t).2 by omega), h2, nI_1]
          refine Or.inl ⟨htL', _, rfl, sA (sA s (17 + (scn b t).2) f) 15 (upd (s.1 15) 2 (nI ((scn b t).2 + 1))), by rw [scn_i hsp], by omega, by rw [sA_k, pk_us, scn_i hsp], fun u hu hu2 => ?_, fun k h1 h3 => by rw [sA_n h1, sA_n (by omega)]; exact hk k h1 h3, hs2⟩
          have hmu : (scn b u).2 ≤ 5 := by
            rcases (hV u (by omega)).2 with z | ⟨z, -⟩
            · exact absurd z hu2
            · omega
          rw [sA_n (by omega)]
          by_cases e : u = t
          · subst e; rw [sA_k]; exact ⟨g2, g3⟩
          · have hmo := scn_mo b (show u + 1 ≤ t by omega)
            rw [scn_i hu2] at hmo
            dsimp only at hmo
            rw [sA_n (by omega)]
            exact hC u (by omega) hu2)
    (v := (0, sA sc 15 (upd (sc.1 15) 2 0))) ⟨_, rfl, by omega, by rw [sA_k, pk_us]; rfl, fun t ht => by omega, fun k h1 _ => sA_n h1, rfl⟩
  obtain ⟨-, hm⟩ := SV_le hV
  rw [e1, b_s]
  dsimp only
  obtain ⟨s', g1, g2, g3⟩ := e_go (N := (scn b L).2) (T := T) (t := 0) (sc := s) (kd := fun p => s.1 (17 + p) 0) (us := fun p => s.1 (17 + p) 3) (ot := fun p => s.1 (17 + p) 4) ⟨hm, a1, fun p hp => ⟨rfl, rfl, rfl⟩⟩ (by rw [a3 33 (by omega) (by omega)]; exact hT) hT6 (by omega) (fun i hi => by omega)
  rw [show (0 : Int32) = nI 0 by decide, g1, b_s]
  refine ⟨s', rfl, by rw [g3.2.1, sA_n (by omega)]; exact a1, g2.2.1, g2.2.2, by rw [g3.1 33 (by omega) (by omega), sA_k, pk_us], g2.1, fun u hu hu2 => ?_, fun k h1 h2 h3 => by rw [g3.1 k h1 h2, sA_n h3]; exact a3 k h1 h2, by rw [g3.2.2.2]; exact a4⟩
  have hmu : (scn b u).2 ≤ 5 := by
    rcases (hV u (by omega)).2 with z | ⟨z, -⟩
    · exact absurd z hu2
    · omega
  obtain ⟨c1, c2⟩ := a2 u hu hu2
  exact ⟨by rw [g3.2.2.1 _ 0 (by omega) (by omega), sA_n (by omega)]; exact c1, fun j j1 j6 => by rw [g3.2.2.1 _ j (by omega) j6, sA_n (by omega)]; exact c2 j j1 j6⟩
theorem nI_rng {x : Int32} {lo hi : Nat} (hl : lo < 2 ^ 30) (hhi : hi < 2 ^ 30) (h1 : ¬ x < nI lo) (h2 : ¬ nI hi < x) : ∃ h, lo ≤ h ∧ h ≤ hi ∧ x = nI h := by
  have a := Int32.not_lt.mp h1
  have c := Int32.not_lt.mp h2
  have a' := Int32.le_iff_toInt_le.mp a
  rw [nI_toInt (by omega)] at a'
  obtain ⟨j, hj, rfl⟩ := nI_of (x := x) (fun z => by
    have := Int32.lt_iff_toInt_lt.mp z
    have e0 : (0 : Int32).toInt = 0 := by decide
    omega)
  rw [nI_toInt hj] at a'
  have := (nI_leI hj (by omega)).mp c
  exact ⟨j, by omega, this, rfl⟩
theorem e_clear {sc : St} (x y : Int32) : ∃ s, iter (fun v : Int32 × St => l_X5_shop_56 x y v.1 v.2) fuel (0, sc) = some (nI 3, s) ∧ (∀ k, k < 3 → s.1 (24 + k) 2 = 0) ∧ (∀ k, ¬ (24 ≤ k ∧ k < 27) → s.1 k = sc.1 k) ∧ s.2 = sc.2 := by
  have n3 : (3 : Int32) = nI 3 := by decide +kernel
  obtain ⟨g, e, s, rfl, h1, h2, h3⟩ := iter_inv (body := fun v : Int32 × St => l_X5_shop_56 x y v.1 v.2) (Out := fun g => ∃ s, g = (nI 3, s) ∧ (∀ k, k < 3 → s.1 (24 + k) 2 = 0) ∧ (∀ k, ¬ (24 ≤ k ∧ k < 27) → s.1 k = sc.1 k) ∧ s.2 = sc.2) (fun n v => ∃ s, v = (nI n, s) ∧ (∀ k, k < n → s.1 (24 + k) 2 = 0) ∧ (∀ k, ¬ (24 ≤ k ∧ k < 27) → s.1 k = sc.1 k) ∧ s.2 = sc.2) 3 (by omega) (fun n v hn hS => by
    obtain ⟨s, rfl, h1, h2, h3⟩ := hS
    dsimp only
    unfold l_X5_shop_56
    rw [n3]
    by_cases h : n < 3
    · rw [if_neg (nI_ge h (by omega)), gd_i _ h (by omega), ls_e, nI_clamp (show n < 2 ^ 31 by omega), nI_1]
      refine Or.inl ⟨h, _, rfl, _, rfl, fun k hk => ?_, fun k hk => by rw [sA_n (by omega)]; exact h2 k hk, h3⟩
      by_cases e : k = n
      · subst e; rw [sA_k, pk_us]
      · rw [sA_n (by omega)]; exact h1 k (by omega)
    · have : n = 3 := by omega
      subst this
      rw [if_pos (nI_le (Nat.le_refl _) (by omega))]
      exact Or.inr ⟨_, rfl, s, rfl, h1, h2, h3⟩) (v := (0, sc)) ⟨sc, rfl, fun k hk => by omega, fun _ _ => rfl, rfl⟩
  exact ⟨s, e, h1, h2, h3⟩
theorem m_fill {sm : St} {M : Nat} (hM : M ≤ 6) (h10 : sm.1 0 10 = nI M) (x : Int32) : ∃ s, iter (fun v : Int32 × St => l_X6_shop_47 x v.1 v.2) fuel (0, sm) = some (nI M, s) ∧ (∀ p, p < M → ∀ j, j < 6 → s.1 (7 + j) p = sm.1 13 (6 * p + j)) ∧ (∀ k, ¬ (7 ≤ k ∧ k < 13) → s.1 k = sm.1 k) ∧ s.2 = sm.2 := by
  obtain ⟨g, e, s, rfl, h1, h2, h3⟩ := iter_inv (body := fun v : Int32 × St => l_X6_shop_47 x v.1 v.2) (Out := fun g => ∃ s, g = (nI M, s) ∧ (∀ p, p < M → ∀ j, j < 6 → s.1 (7 + j) p = sm.1 13 (6 * p + j)) ∧ (∀ k, ¬ (7 ≤ k ∧ k < 13) → s.1 k = sm.1 k) ∧ s.2 = sm.2) (fun n v => ∃ s, v = (nI n, s) ∧ (∀ p, p < n → ∀ j, j < 6 → s.1 (7 + j) p = sm.1 13 (6 * p + j)) ∧ (∀ k, ¬ (7 ≤ k ∧ k < 13) → s.1 k = sm.1 k) ∧ s.2 = sm.2) M (by omega) (fun n v hn hS => by
    obtain ⟨s, rfl, h1, h2, h3⟩ := hS
    dsimp only
    unfold l_X6_shop_47
    rw [h2 0 (by omega), h10]
    by_cases h : n < M
    · rw [if_neg (nI_ge h (by omega))]
      rw [n6, pk_mul, show (1 : Int32) = nI 1 by decide +kernel, show (2 : Int32) = nI 2 by decide +kernel, show (3 : Int32) = nI 3 by decide +kernel, show (4 : Int32) = nI 4 by decide +kernel, show (5 : Int32) = nI 5 by decide +kernel]
      simp only [nI_add, gd_i _ (show n < 6 by omega) (show 6 < 2 ^ 31 by omega), gd_i _ (show 6 * n < 36 by omega) (show 36 < 2 ^ 31 by omega), gd_i _ (show 6 * n + 1 < 36 by omega) (show 36 < 2 ^ 31 by omega), gd_i _ (show 6 * n + 2 < 36 by omega) (show 36 < 2 ^ 31 by omega), gd_i _ (show 6 * n + 3 < 36 by omega) (show 36 < 2 ^ 31 by omega), gd_i _ (show 6 * n + 4 < 36 by omega) (show 36 < 2 ^ 31 by omega), gd_i _ (show 6 * n + 5 < 36 by omega) (show 36 < 2 ^ 31 by omega), ls_e, nI_clamp (show n < 2 ^ 31 by omega), nI_clamp (show 6 * n < 2 ^ 31 by omega), nI_clamp (show 6 * n + 1 < 2 ^ 31 by omega), nI_clamp (show 6 * n + 2 < 2 ^ 31 by omega), nI_clamp (show 6 * n + 3 < 2 ^ 31 by omega), nI_clamp (show 6 * n + 4 < 2 ^ 31 by omega), nI_clamp (show 6 * n + 5 < 2 ^ 31 by omega), sA_n (show (13 : Nat) ≠ 7 by omega), sA_n (show (13 : Nat) ≠ 8 by omega), sA_n (show (13 : Nat) ≠ 9 by omega), sA_n (show (13 : Nat) ≠ 10 by omega), sA_n (show (13 : Nat) ≠ 11 by omega), h2 13 (by omega)]
      refine Or.inl ⟨h, _, rfl, _, rfl, fun p hp j hj => ?_, fun k hk => by rw [sA_n (by omega), sA_n (by omega), sA_n (by omega), sA_n (by omega), sA_n (by omega), sA_n (by omega)]; exact h2 k hk, h3⟩
      have hold : p ≠ n → s.1 (7 + j) p = sm.1 13 (6 * p + j) := fun z => h1 p (by omega) j hj
      rcases (show j = 0 ∨ j = 1 ∨ j = 2 ∨ j = 3 ∨ j = 4 ∨ j = 5 by omega) with rfl | rfl | rfl | rfl | rfl | rfl
      · rw [sA_n (by omega), sA_n (by omega), sA_n (by omega), sA_n (by omega), sA_n (by omega), sA_k]
        by_cases e : p = n
        · subst e; rw [pk_us]; rfl
        · rw [pk_un e]; exact hold e
      · rw [sA_n (by omega), sA_n (by omega), sA_n (by omega), sA_n (by omega), sA_k]
        by_cases e : p = n
        · subst e; rw [pk_us]
        · rw [pk_un e, sA_n (by omega)]; exact hold e
      · rw [sA_n (by omega), sA_n (by omega), sA_n (by omega), sA_k]
        by_cases e : p = n
        · subst e; rw [pk_us]
        · rw [pk_un e, sA_n (by omega), sA_n (by omega)]; exact hold e
      · rw [sA_n (by omega), sA_n (by omega), sA_k]
        by_cases e : p = n
        · subst e; rw [pk_us]
        · rw [pk_un e, sA_n (by omega), sA_n (by omega), sA_n (by omega)]; exact hold e
      · rw [sA_n (by omega), sA_k]
        by_cases e : p = n
        · subst e; rw [pk_us]
        · rw [pk_un e, sA_n (by omega), sA_n (by omega), sA_n (by omega), sA_n (by omega)]; exact hold e
      · rw [sA_k]
        by_cases e : p = n
        · subst e; rw [pk_us]
        · rw [pk_un e, sA_n (by omega), sA_n (by omega), sA_n (by omega), sA_n (by omega), sA_n (by omega)]; exact hold e
    · have : n = M := by omega
      subst this
      rw [if_pos (nI_le (Nat.le_refl _) (by omega))]
      exact Or.inr ⟨_, rfl, s, rfl, h1, h2, h3⟩) (v := (0, sm)) ⟨sm, rfl, fun k hk => by omega, fun _ _ => rfl, rfl⟩
  exact ⟨s, e, h1, h2, h3⟩
theorem s_shop {sc sm : St} (h : RR sc sm) (x : Int32) : Sim (f_X5_shop x sc) (f_X6_shop x sm) := by
  have n3 : (3 : Int32) = nI 3 := by decide +kernel
  unfold f_X5_shop f_X6_shop
  rcases t_text h x with ⟨e1, e2⟩ | ⟨r, hr, rfl, e1, e2, ⟨a1, a2⟩ | ⟨n, hn, a1, a2, a3⟩⟩
  · rw [e_tr0 e1, e2]
    exact ⟨-1, sc, sm, rfl, rfl, h⟩
  · obtain ⟨s1, s2, f1, f2, f3⟩ := s_found h 1 (by omega) (x := 1) (by decide +kernel)
    rw [e_tr1 hr e1 a1, e2, f1, b_s, b_s]
    simp only [z1, if_false, gd_i _ hr (show 4 < 2 ^ 31 by omega), nI_clamp (show r < 2 ^ 31 by omega), a2]
    rw [if_neg (by decide), if_neg (by decide), f2]
    exact ⟨-3, s1, s2, rfl, rfl, f3⟩
  rw [e_tr2 hr (by omega) e1 a1, e2, b_s, b_s]
  simp only [z1, if_false, if_true, gd_i _ hr (show 4 < 2 ^ 31 by omega), nI_clamp (show r < 2 ^ 31 by omega), a1, a2, if_y (nI_pos' (show n < 2 ^ 31 by omega))]
  rcases t_fault (b := fun j => sm.1 6 (60 * r + j)) hr hn a2 a3 (fun j _ => rfl) with ⟨f, s, hf, g1, g2, g3⟩ | ⟨L, s0, hL, hV, hend, g1, g2, g3, g4, g5⟩
  · rw [g1, g2, b_s, b_s]
    dsimp only
    rw [if_neg (n9p (by omega)), if_neg (n9p (by omega))]
    exact ⟨-4, sc, s, rfl, rfl, R_PZ h g3⟩
  rw [g1, g2, b_s, b_s]
  dsimp only
  rw [if_pos rfl, if_pos rfl, a1]
  generalize hb : (fun j => sm.1 6 (60 * r + j)) = b at hV hend g4 g5
  have hbc : ∀ j, j < n → sc.1 (10 + r) j = b j := fun j hj => by rw [← hb]; exact a3 j hj
  obtain ⟨N, -, -, ⟨T, hT⟩, -⟩ := h.1
  obtain ⟨s1, c1, c2, c3, c4, c5, c6, c7, c8, c9⟩ := e_open hr hn hL hbc hV hend hT.2.1 hT.1
  obtain ⟨-, hM⟩ := SV_le hV
  rw [c1, b_s]
  obtain ⟨sc', d1, d2, d3, d4⟩ := e_clear (sc := s1) (nI r) 0
  rw [d1, b_s]
  dsimp only
  rw [d3 15 (by omega), c2]
  -- the reference
  rw [ls_e, g4]
  generalize hM' : (scn b L).2 = M at *
  obtain ⟨s2, m1, m2, m3, m4⟩ := m_fill (sm := sA s0 0 (upd (s0.1 0) 10 (nI M))) hM (by rw [sA_k, pk_us]) (nI r)
  rw [m1, b_s]
  dsimp only
  obtain ⟨f1, p1, p2, -⟩ := cp_loop (body := fun v : Int32 × St => l_X6_shop_163 (nI r) v.1 v.2) (sm := s2) 14 14 (by omega) (fun j => j) (fun _ => 0) (fun i j _ _ h => h) (fun j g hj => by
    dsimp only
    unfold l_X6_shop_163
    rw [n14, if_neg (nI_ge hj (by omega)), gd_i _ hj (by omega), ls_e, nI_clamp (show j < 2 ^ 31 by omega), nI_1, sA_sA, sA_k]) (fun g => by
    dsimp only
    unfold l_X6_shop_163
    rw [n14, if_pos (nI_le (Nat.le_refl _) (by omega))])
  rw [p1, b_s, ls_e]
  dsimp only
  rw [sA_n (show (0 : Nat) ≠ 14 by omega)]
  obtain ⟨f2, q1, q2, -⟩ := cp_loop (body := fun v : Int32 × St => l_X6_shop_189 (nI r) v.1 v.2) (sm := sA (sA s2 14 f1) 0 (upd (s2.1 0) 21 0)) 16 3 (by omega) (fun j => j) (fun _ => 0) (fun i j _ _ h => h) (fun j g hj => by
    dsimp only
    unfold l_X6_shop_189
    rw [n3, if_neg (nI_ge hj (by omega)), gd_i _ hj (by omega), ls_e, nI_clamp (show j < 2 ^ 31 by omega), nI_1, sA_sA, sA_k]) (fun g => by
    dsimp only
    unfold l_X6_shop_189
    rw [n3, if_pos (nI_le (Nat.le_refl _) (by omega))])
  rw [q1, b_s]
  generalize hsm : sA (sA (sA s2 14 f1) 0 (upd (s2.1 0) 21 0)) 16 f2 = sm'
  have om : ∀ k, k ≠ 0 → ¬ (7 ≤ k ∧ k < 13) → k ≠ 13 → k ≠ 14 → k ≠ 16 → sm'.1 k = sm.1 k := fun k k0 k1 k2 k3 k4 => by
    rw [← hsm, sA_n k4, sA_n k0, sA_n k3, m3 k k1, sA_n k0, g3.1 k k0 k2]
  have o0 : sm'.1 0 = upd (upd (s0.1 0) 10 (nI M)) 21 0 := by rw [← hsm, sA_n (by omega), sA_k, m3 0 (by omega), sA_k]
  have o14 : sm'.1 14 = f1 := by rw [← hsm, sA_n (by omega), sA_n (by omega), sA_k]
  have o16 : sm'.1 16 = f2 := by rw [← hsm, sA_k]
  have o7 : ∀ p, p < M → ∀ j, j < 6 → sm'.1 (7 + j) p = s0.1 13 (6 * p + j) := fun p hp j hj => by rw [← hsm, sA_n (by omega), sA_n (by omega), sA_n (by omega), m2 p hp j hj, sA_n (by omega)]
  have o2 : sm'.2 = sm.2 := by
    rw [← hsm]
    exact m4.trans g3.2.2
  have oc : ∀ k, k ≠ 15 → ¬ (17 ≤ k ∧ k < 23) → k ≠ 33 → ¬ (24 ≤ k ∧ k < 27) → sc'.1 k = sc.1 k := fun k k1 k2 k3 k4 => by rw [d3 k k4, c8 k k1 k2 k3]
  refine ⟨nI M, sc', sm', rfl, by rw [o0, pk_un (by omega), pk_us], ⟨M, ?_, ?_, ⟨0, ?_⟩, fun k hk => ?_⟩, RO_congr (fun k h1 h2 => oc k (by omega) (by omega) (by omega) (by omega)) (om 2 (by omega) (by omega) (by omega) (by omega) (by omega)) (om 3 (by omega) (by omega) (by omega) (by omega) (by omega)) h.2.1, RX_congr (fun k h1 h2 => oc k (by omega) (by omega) (by omega) (by omega)) (om 5 (by omega) (by omega) (by omega) (by omega) (by omega)) (om 6 (by omega) (by omega) (by omega) (by omega) (by omega)) h.2.2.1, ?_⟩
  · refine ⟨hM, by rw [d3 15 (by omega)]; exact c2, by rw [o0, pk_un (by omega), pk_us], fun p hp => ?_⟩
    obtain ⟨t, t1, t2, t3⟩ := scn_at b (p := p) L (by rw [hM']; exact hp)
    obtain ⟨y1, y2⟩ := c7 t t1 t2
    obtain ⟨y3, y4⟩ := g5 t t1 t2
    rw [t3] at y1 y2 y3 y4
    have hok : ∀ u, u < 6 → okI b n (scn b t).1 u := by
      rcases (hV t t1).2 with z | ⟨-, z⟩
      · exact absurd z t2
      · exact z
    have hrow : ∀ j, j < 6 → sc'.1 (17 + p) j = sm'.1 (7 + j) p := fun j hj => by
      rw [d3 (17 + p) (by omega), o7 p hp j hj]
      by_cases e : j = 0
      · subst e; rw [y1]; exact y3.symm
      · rw [y2 j (by omega) hj, y4 j (by omega) hj]
    have hrng : ∀ (j lo hi : Nat), 1 ≤ j → j < 6 → tb1 j = nI lo → tb2 j = nI hi → lo < 2 ^ 30 → hi < 2 ^ 30 → ∃ h, lo ≤ h ∧ h ≤ hi ∧ sm'.1 (7 + j) p = nI h := fun j lo hi h1 h6 e1 e2 hlo hhi => by
      rw [o7 p hp j h6, y4 j h1 h6]
      rcases (hok j h6).2 with ⟨z, -⟩ | ⟨-, z1, z2⟩
      · omega
      · rw [e1] at z1
        rw [e2] at z2
        exact nI_rng hlo hhi z1 z2
    refine ⟨hrow, ?_, ?_, ?_⟩
    · obtain ⟨v, -, v2, v3⟩ := hrng 1 0 3 (by omega) (by omega) (by decide +kernel) (by decide +kernel) (by omega) (by omega)
      exact ⟨v, by omega, v3⟩
    · obtain ⟨v, -, v2, v3⟩ := hrng 2 0 3 (by omega) (by omega) (by decide +kernel) (by decide +kernel) (by omega) (by omega)
      exact ⟨v, by omega, v3⟩
    · exact hrng 5 1 9 (by omega) (by omega) (by decide +kernel) (by decide +kernel) (by omega) (by omega)
  · refine ⟨fun p hp => ?_, ?_, ?_⟩
    · rw [d3 (17 + p) (by omega), o14, p2 p (by omega), p2 (6 + p) (by omega)]; exact c6 p hp
    · rw [d3 15 (by omega), o14, p2 12 (by omega)]; exact c3
    · rw [d3 15 (by omega), o14, p2 13 (by omega)]; exact c4
  · refine ⟨by omega, by rw [d3 33 (by omega)]; exact c5, by rw [o0, pk_us]; rfl, fun i hi => by omega, fun j hj => ?_, fun i hi => by omega⟩
    rw [o14, p2 j hj]
    rfl
  · refine ⟨by rw [d2 k hk, o16, q2 k hk], Or.inl (by rw [o16, q2 k hk])⟩
  · obtain ⟨a, b, c, d, e⟩ := h.2.2.2
    unfold RF
    rw [oc 0 (by omega) (by omega) (by omega) (by omega), oc 43 (by omega) (by omega) (by omega) (by omega), o0, pk_un (by omega), pk_un (by omega), pk_un (by omega), pk_un (by omega), g3.2.1 0 (by omega) (by omega), g3.2.1 2 (by omega) (by omega), om 1 (by omega) (by omega) (by omega) (by omega) (by omega), o2, d4, c9]
    exact ⟨a, b, c, d, e⟩
