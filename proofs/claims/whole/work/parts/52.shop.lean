/-! FAULT, SHOP -/
/-- place and count after t steps through the text -/
def scn (b : Nat → Int32) : Nat → Nat × Nat
  | 0 => (0, 0)
  | t + 1 => if b (scn b t).1 = 32 then ((scn b t).1 + 1, (scn b t).2) else ((scn b t).1 + 6, (scn b t).2 + 1)
theorem scn_s {b : Nat → Int32} {t : Nat} (h : b (scn b t).1 = 32) : scn b (t + 1) = ((scn b t).1 + 1, (scn b t).2) := by
  show (if b (scn b t).1 = 32 then _ else _) = _
  rw [if_pos h]
theorem scn_i {b : Nat → Int32} {t : Nat} (h : ¬ b (scn b t).1 = 32) : scn b (t + 1) = ((scn b t).1 + 6, (scn b t).2 + 1) := by
  show (if b (scn b t).1 = 32 then _ else _) = _
  rw [if_neg h]
theorem scn_ge (b : Nat → Int32) : ∀ t, t ≤ (scn b t).1
  | 0 => by omega
  | t + 1 => by
    have := scn_ge b t
    by_cases h : b (scn b t).1 = 32
    · rw [scn_s h]; dsimp only; omega
    · rw [scn_i h]; dsimp only; omega
theorem scn_mo (b : Nat → Int32) {u : Nat} : ∀ {t}, u ≤ t → (scn b u).2 ≤ (scn b t).2
  | 0, h => by have : u = 0 := by omega
               subst this; omega
  | t + 1, h => by
    by_cases e : u = t + 1
    · subst e; omega
    · have := scn_mo b (show u ≤ t by omega)
      by_cases h : b (scn b t).1 = 32
      · rw [scn_s h]; exact this
      · rw [scn_i h]; dsimp only; omega
/-- the p-th one begins somewhere -/
theorem scn_at (b : Nat → Int32) {p : Nat} : ∀ L, p < (scn b L).2 → ∃ t, t < L ∧ ¬ b (scn b t).1 = 32 ∧ (scn b t).2 = p
  | 0, h => by exact absurd h (by show ¬ p < 0; omega)
  | L + 1, h => by
    by_cases q : p < (scn b L).2
    · obtain ⟨t, h1, h2⟩ := scn_at b L q
      exact ⟨t, by omega, h2⟩
    · by_cases e : b (scn b L).1 = 32
      · rw [scn_s e] at h; exact absurd h q
      · rw [scn_i e] at h
        dsimp only at h
        exact ⟨L, by omega, e, by omega⟩
def SV (b : Nat → Int32) (n L : Nat) : Prop := (∀ t, t < L → (scn b t).1 < n ∧ (b (scn b t).1 = 32 ∨ ((scn b t).2 < 6 ∧ ∀ u, u < 6 → okI b n (scn b t).1 u)))
def FLL (b : Nat → Int32) (L : Nat) (s : St) : Prop := ∀ t, t < L → ¬ b (scn b t).1 = 32 → s.1 13 (6 * (scn b t).2) = kF (b (scn b t).1) ∧ ∀ j, 1 ≤ j → j < 6 → s.1 13 (6 * (scn b t).2 + j) = b ((scn b t).1 + j) - 48
theorem SV_le {b : Nat → Int32} {n : Nat} : ∀ {L}, SV b n L → (scn b L).1 ≤ n ∧ (scn b L).2 ≤ 6
  | 0, _ => ⟨by show 0 ≤ n; omega, by show 0 ≤ 6; omega⟩
  | L + 1, h => by
    obtain ⟨h1, h2⟩ := SV_le (L := L) (fun t ht => h t (by omega))
    obtain ⟨h3, h4⟩ := h L (by omega)
    by_cases e : b (scn b L).1 = 32
    · rw [scn_s e]; exact ⟨by dsimp only; omega, h2⟩
    · rw [scn_i e]
      rcases h4 with h4 | ⟨h4, h5⟩
      · exact absurd h4 e
      · have := (h5 5 (by omega)).1
        exact ⟨by dsimp only; omega, by dsimp only; omega⟩
theorem t_fault {r n : Nat} {sc sm : St} {b : Nat → Int32} (hr : r < 4) (hn : n ≤ 60) (hs : sm.1 5 r = nI n) (hbc : ∀ j, j < n → sc.1 (10 + r) j = b j) (hbm : ∀ j, j < n → sm.1 6 (60 * r + j) = b j) :
    (∃ f s, f ≤ 66 ∧ f_X5_faultOf (10 + r) (nI n) sc = some (nI f, sc) ∧ f_X6_faultOf (nI r) sm = some (nI f, s) ∧ PZ sm s) ∨
    ∃ L s, L ≤ 60 ∧ SV b n L ∧ n ≤ (scn b L).1 ∧ f_X5_faultOf (10 + r) (nI n) sc = some (-9, sc) ∧ f_X6_faultOf (nI r) sm = some (-9, s) ∧ PZ sm s ∧ s.1 0 18 = nI (scn b L).2 ∧ FLL b L s := by
  have n32 : n < 2 ^ 31 := by omega
  have key := iter_two (body := fun v : Int32 × Int32 × St => l_X5_faultOf_4 (10 + r) (nI n) v.1 v.2.1 v.2.2) (body' := fun v : St => l_X6_faultOf_10 (nI r) v)
    (Out := fun g g' => (∃ f s, f ≤ 66 ∧ g = Sum.inl (nI f, sc) ∧ g' = Sum.inl (nI f, s) ∧ PZ sm s) ∨ ∃ L s, L ≤ 60 ∧ SV b n L ∧ n ≤ (scn b L).1 ∧ g = Sum.inr (nI (scn b L).2, nI (scn b L).1, sc) ∧ g' = Sum.inr s ∧ PZ sm s ∧ s.1 0 18 = nI (scn b L).2 ∧ FLL b L s)
    (fun t v v' => SV b n t ∧ v = (nI (scn b t).2, nI (scn b t).1, sc) ∧ PZ sm v' ∧ v'.1 0 17 = nI (scn b t).1 ∧ v'.1 0 18 = nI (scn b t).2 ∧ FLL b t v') 60 (by omega) (fun t v s ht hS => by
      obtain ⟨hV, rfl, hP, h17, h18, hF⟩ := hS
      obtain ⟨hi, hm⟩ := SV_le hV
      have hti := scn_ge b t
      dsimp only
      unfold l_X5_faultOf_4 l_X6_faultOf_10
      have hss : s.1 5 r = nI n := by rw [hP.1 5 (by omega) (by omega)]; exact hs
      have hbs : ∀ j, j < n → s.1 6 (60 * r + j) = b j := fun j hj => by rw [hP.1 6 (by omega) (by omega)]; exact hbm j hj
      rw [gd_i _ hr (by omega), nI_clamp (show r < 2 ^ 31 by omega), hss, h17]
      by_cases hend : n ≤ (scn b t).1
      · rw [if_pos (nI_le hend (by omega)), if_pos (nI_le hend (by omega))]
        exact Or.inr ⟨_, _, rfl, rfl, Or.inr ⟨t, s, ht, hV, hend, rfl, rfl, hP, h18, hF⟩⟩
      have hlt : (scn b t).1 < n := by omega
      rw [if_neg (nI_ge hlt (by omega)), if_neg (nI_ge hlt (by omega)), gd_i _ (show (scn b t).1 < 60 by omega) (by omega), nI_clamp (show (scn b t).1 < 2 ^ 31 by omega), hbc _ hlt, m_byte hr hss hbs hn (by omega), b_s, if_neg hend]
      dsimp only
      by_cases hsp : b (scn b t).1 = 32
      · rw [if_pos hsp, if_pos hsp, ls_e, h17, nI_1]
        refine Or.inl ⟨by omega, _, _, rfl, rfl, fun u hu => ?_, by rw [scn_s hsp], hP.tr (pz_0 s 17 (Or.inl rfl) _), by rw [sA_k, pk_us, scn_s hsp], by rw [sA_k, pk_un (by omega), scn_s hsp]; exact h18, fun u hu hu2 => ?_⟩
        · by_cases e : u = t
          · subst e; exact ⟨hlt, Or.inl hsp⟩
          · exact hV u (by omega)
        · rw [sA_n (by omega)]
          by_cases e : u = t
          · subst e; exact absurd hsp hu2
          · exact hF u (by omega) hu2
      rw [if_neg hsp, if_neg hsp]
      obtain ⟨v, v1, v2, v3⟩ := fst6 (fun u => okI b n (scn b t).1 u) 6
      by_cases h6 : (scn b t).2 = 6
      · rw [h6, n6, if_pos rfl, m_readsA hr hss hbs hn hlt h17 h18 (Or.inr h6), b_s, if_pos rfl]
        dsimp only
        rw [h17]
        exact Or.inr ⟨_, _, rfl, rfl, Or.inl ⟨_, s, by omega, rfl, rfl, hP⟩⟩
      rw [n6, if_neg (fun z => h6 ((nI_eq (by omega) (by omega)).mp z)), e_item hbc hn (by omega) v1 v2 v3, b_s]
      dsimp only
      by_cases hv0 : v = 0
      · subst hv0
        rw [if_neg (show ¬ (0 : Nat) = 6 by omega), if_neg (n9p (show (scn b t).1 + 0 < 2 ^ 31 by omega)), m_readsA hr hss hbs hn hlt h17 h18 (Or.inl (v3 (by omega))), b_s, if_pos rfl]
        dsimp only
        rw [h17]
        exact Or.inr ⟨_, _, rfl, rfl, Or.inl ⟨_, s, by omega, rfl, rfl, hP⟩⟩
      obtain ⟨s', r1, r2, r3, r4, r5⟩ := m_readsB hr hss hbs hn hlt h17 h18 (by omega) v1 (by omega) v2 v3
      rw [r1, b_s]
      dsimp only
      by_cases hv6 : v = 6
      · subst hv6
        rw [if_pos rfl, if_pos rfl, if_pos rfl, if_neg (by decide), nI_1, nI_add]
        obtain ⟨r6, r7, r8⟩ := r4 rfl
        refine Or.inl ⟨by omega, _, _, rfl, rfl, fun u hu => ?_, by rw [scn_i hsp], hP.tr r2, by rw [scn_i hsp]; exact r3, by rw [scn_i hsp]; exact r6, fun u hu hu2 => ?_⟩
        · by_cases e : u = t
          · subst e; exact ⟨hlt, Or.inr ⟨by omega, v2⟩⟩
          · exact hV u (by omega)
        · by_cases e : u = t
          · subst e; exact ⟨r7, r8⟩
          · obtain ⟨f1, f2⟩ := hF u (by omega) hu2
            have hmo := scn_mo b (show u + 1 ≤ t by omega)
            rw [scn_i hu2] at hmo
            dsimp only at hmo
            exact ⟨by rw [r5 _ (by omega)]; exact f1, fun j j1 j2 => by rw [r5 _ (by omega)]; exact f2 j j1 j2⟩
      · rw [if_neg hv6, if_neg hv6, if_neg (n9p (by omega)), if_pos rfl, r3]
        exact Or.inr ⟨_, _, rfl, rfl, Or.inl ⟨_, s', by omega, rfl, rfl, hP.tr r2⟩⟩)
    (v := (0, 0, sc)) (v' := sA (sA sm 0 (upd (sm.1 0) 17 0)) 0 (upd ((sA sm 0 (upd (sm.1 0) 17 0)).1 0) 18 0)) ⟨fun t ht => by omega, rfl, (pz_0 sm 17 (Or.inl rfl) 0).tr (pz_0 _ 18 (Or.inr rfl) 0), by rw [sA_k, pk_un (by omega), sA_k, pk_us]; rfl, by rw [sA_k, pk_us]; rfl, fun t ht => by omega⟩
  obtain ⟨g, g', e1, e2, h⟩ := key
  unfold f_X5_faultOf f_X6_faultOf
  rw [ls_e, ls_e, e1, e2, b_s, b_s]
  rcases h with ⟨f, s, h1, rfl, rfl, h2⟩ | ⟨L, s, h1, h2, h3, rfl, rfl, h4, h5, h6⟩
  · exact Or.inl ⟨f, s, h1, rfl, rfl, h2⟩
  · simp only [Sum.elim_inr]
    rw [h5]
    by_cases z : nI (scn b L).2 = 0
    · rw [if_pos z, if_pos z, gd_i _ hr (by omega), nI_clamp (show r < 2 ^ 31 by omega), h4.1 5 (by omega) (by omega), hs]
      exact Or.inl ⟨n, s, by omega, rfl, rfl, h4⟩
    · rw [if_neg z, if_neg z]
      exact Or.inr ⟨L, s, h1, h2, h3, rfl, rfl, h4, h5, h6⟩
theorem R_PZ {sc sm s : St} (h : RR sc sm) (hP : PZ sm s) : RR sc s := by
  refine R_F h (fun _ _ _ => rfl) (fun k h1 h2 h3 h4 => hP.1 k (by omega) h4) (hP.2.1 10 (by omega) (by omega)) (hP.2.1 21 (by omega) (by omega)) ?_
  obtain ⟨a, b, c, d, e⟩ := h.2.2.2
  exact ⟨by rw [hP.2.1 0 (by omega) (by omega)]; exact a, by rw [hP.2.1 2 (by omega) (by omega)]; exact b, fun f hf => by rw [hP.1 1 (by omega) (by omega)]; exact c f hf, by rw [hP.2.2]; exact d, by rw [hP.2.2]; exact e⟩
theorem s_fault {sc sm : St} (h : RR sc sm) (x : Int32) : Sim (f_X5_fault x sc) (f_X6_fault x sm) := by
  unfold f_X5_fault f_X6_fault
  rcases t_text h x with ⟨e1, e2⟩ | ⟨r, hr, rfl, e1, e2, ⟨a1, a2⟩ | ⟨n, hn, a1, a2, a3⟩⟩
  · rw [e_tr0 e1, e2]
    exact ⟨-1, sc, sm, rfl, rfl, h⟩
  · obtain ⟨s1, s2, f1, f2, f3⟩ := s_found h 1 (by omega) (x := 1) (by decide +kernel)
    rw [e_tr1 hr e1 a1, e2, f1, b_s, b_s]
    simp only [z1, if_false, gd_i _ hr (show 4 < 2 ^ 31 by omega), nI_clamp (show r < 2 ^ 31 by omega), a2]
    rw [if_neg (by decide), if_neg (by decide), f2]
    exact ⟨-3, s1, s2, rfl, rfl, f3⟩
  · rw [e_tr2 hr (by omega) e1 a1, e2, b_s, b_s]
    simp only [z1, if_false, if_true, gd_i _ hr (show 4 < 2 ^ 31 by omega), nI_clamp (show r < 2 ^ 31 by omega), a1, a2, if_y (nI_pos' (show n < 2 ^ 31 by omega))]
    rcases t_fault (b := fun j => sm.1 6 (60 * r + j)) hr hn a2 a3 (fun j _ => rfl) with ⟨f, s, -, g1, g2, g3⟩ | ⟨L, s, -, -, -, g1, g2, g3, -⟩
    · rw [g1, g2]
      exact ⟨nI f, sc, s, rfl, rfl, R_PZ h g3⟩
    · rw [g1, g2]
      exact ⟨-9, sc, s, rfl, rfl, R_PZ h g3⟩
