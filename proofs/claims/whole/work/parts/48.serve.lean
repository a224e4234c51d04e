/-! ONE TURN MORE -/
theorem n14 : (14 : Int32) = nI 14 := by decide +kernel
theorem ix14 (r i : Nat) : (14 : Int32) * nI r + nI i = nI (14 * r + i) := by rw [n14, pk_mul, nI_add]
theorem m_rem {T : Nat} {sm : St} (hT : sm.1 0 21 = nI T) (hT6 : T < 60) : ∃ f, f_X6_remember sm = some (sA (sA sm 15 f) 0 (upd (sm.1 0) 21 (nI (T + 1)))) ∧ (∀ j, j < 14 → f (14 * T + j) = sm.1 14 j) ∧ ∀ q, q < 14 * T → f q = sm.1 15 q := by
  unfold f_X6_remember
  obtain ⟨f, e, h1, h2⟩ := cp_loop (body := fun v : Int32 × St => l_X6_remember_2 v.1 v.2) (sm := sm) 15 14 (by omega) (fun k => 14 * T + k) (fun k => sm.1 14 k) (fun i j _ _ h => by omega) (fun k g hk => by
    dsimp only
    unfold l_X6_remember_2
    rw [sA_n (show (0 : Nat) ≠ 15 by omega), hT, ix14, gd_i _ (show k < 14 by omega) (by omega), gd_i _ (show 14 * T + k < 840 by omega) (by omega), ls_e, nI_clamp (show 14 * T + k < 2 ^ 31 by omega), nI_clamp (show k < 2 ^ 31 by omega), n14, if_neg (nI_ge hk (by omega)), nI_1, sA_sA, sA_k, sA_n (show (14 : Nat) ≠ 15 by omega)]) (fun g => by
    dsimp only
    unfold l_X6_remember_2
    rw [n14, if_pos (nI_le (Nat.le_refl _) (by omega))])
  rw [e, b_s]
  dsimp only
  rw [ls_e, sA_n (show (0 : Nat) ≠ 15 by omega), hT, nI_1]
  exact ⟨f, rfl, h1, fun q hq => h2 q (fun k _ => by omega)⟩
/-- what the reference has after one turn more -/
def MN (T : Nat) (wh la : Int32) (sm sm' : St) : Prop := (∀ j, j < 14 → sm'.1 14 j = stepN (sm.1 7) (sm.1 10) (sm.1 11) (sm.1 14) wh la j) ∧ (∀ j, j < 14 → sm'.1 15 (14 * T + j) = sm.1 14 j) ∧ (∀ q, q < 14 * T → sm'.1 15 q = sm.1 15 q) ∧ sm'.1 0 = upd (sm.1 0) 21 (nI (T + 1)) ∧ (∀ k, k ≠ 0 → k ≠ 14 → k ≠ 15 → sm'.1 k = sm.1 k) ∧ sm'.2 = sm.2
theorem m_serves {T : Nat} {sm : St} (hT : sm.1 0 21 = nI T) (hT6 : T < 60) {p : Nat} (hp : p < 6) (la : Int32) : ∃ sm', f_X6_serves (nI p) la sm = some (takF (sm.1 7 p) (sm.1 10 p) (sm.1 11 p) (sm.1 14 p) (sm.1 14 12) la, sm') ∧ MN T (nI p) la sm sm' := by
  obtain ⟨f, e, h1, h2⟩ := m_rem hT hT6
  unfold f_X6_serves
  rw [m_tak hp, b_s]
  dsimp only
  rw [m_sou hp, b_s]
  dsimp only
  rw [e, b_s]
  have e6 : (6 : Int32) + nI p = nI (6 + p) := by rw [n6, nI_add]
  simp only [e6, gd_i _ (show p < 14 by omega) (show 14 < 2 ^ 31 by omega), gd_i _ (show 6 + p < 14 by omega) (show 14 < 2 ^ 31 by omega), gd_t _ in13, cl13, nI_clamp (show p < 2 ^ 31 by omega), nI_clamp (show 6 + p < 2 ^ 31 by omega), ls_e, sA_sA, sA_k]
  have key : ∀ s : Int32, s = souF (sm.1 7 p) (sm.1 10 p) (sm.1 11 p) (sm.1 14 12) la → MN T (nI p) la sm (sA (sA (sA sm 15 f) 0 (upd (sm.1 0) 21 (nI (T + 1)))) 14 (upd (upd (upd (sm.1 14) p (sm.1 14 p + 1)) (6 + p) (upd (sm.1 14) p (sm.1 14 p + 1) (6 + p) + s)) 13 (upd (upd (sm.1 14) p (sm.1 14 p + 1)) (6 + p) (upd (sm.1 14) p (sm.1 14 p + 1) (6 + p) + s) 13 + takF (sm.1 7 p) (sm.1 10 p) (sm.1 11 p) (sm.1 14 p) (sm.1 14 12) la))) := by
    intro s hs
    refine ⟨fun j hj => ?_, fun j hj => ?_, fun q hq => ?_, ?_, fun k h0 h14 h15 => ?_, rfl⟩
    · rw [sA_k, stepN_p _ _ _ _ _ (show p < 2 ^ 31 by omega)]
      by_cases e13 : j = 13
      · subst e13
        rw [if_pos rfl, pk_us, pk_un (by omega), pk_un (by omega)]
      · rw [if_neg e13, pk_un e13]
        by_cases ep : j = p
        · subst ep
          rw [if_pos rfl, pk_un (by omega), pk_us]
        · rw [if_neg ep]
          by_cases e6 : j = 6 + p
          · subst e6
            rw [if_pos rfl, pk_us, pk_un (by omega), hs]
          · rw [if_neg e6, pk_un e6, pk_un ep]
    · rw [sA_n (by omega), sA_n (by omega), sA_k]; exact h1 j hj
    · rw [sA_n (by omega), sA_n (by omega), sA_k]; exact h2 q hq
    · rw [sA_n (by omega), sA_k]
    · rw [sA_n h14, sA_n h0, sA_n h15]
  rw [sA_n (show (14 : Nat) ≠ 0 by omega), sA_n (show (14 : Nat) ≠ 15 by omega)]
  rcases souF_01 (sm.1 7 p) (sm.1 10 p) (sm.1 11 p) (sm.1 14 12) la with z | z
  · rw [z, if_pos rfl]
    exact ⟨_, rfl, key 0 z.symm⟩
  · rw [z, if_neg (by decide)]
    exact ⟨_, rfl, key 1 z.symm⟩
/-- what the class has after one turn more -/
def CX (N T : Nat) (wh la : Int32) (sc sc' : St) : Prop := sc'.1 37 = upd (sc.1 37) T wh ∧ sc'.1 41 = upd (sc.1 41) T la ∧ sc'.1 33 2 = nI (T + 1) ∧ sc'.1 15 2 = sc.1 15 2 ∧ (∀ k, k ≠ 15 → ¬ (17 ≤ k ∧ k < 23) → k ≠ 33 → k ≠ 37 → k ≠ 41 → sc'.1 k = sc.1 k) ∧ (∀ p j, p < 6 → j < 6 → sc'.1 (17 + p) j = sc.1 (17 + p) j) ∧ sc'.2 = sc.2
theorem R_next {N T : Nat} {sc sm sc' sm' : St} (h : RR sc sm) (hV : RV N sc sm) (hT : RT N T sc sm) (hK : ∀ k, k < 3 → RK N k sc sm) (hT6 : T < 60) {wh la : Int32} (hw : okT N wh) (hc : CX N T wh la sc sc') (hn : CN N sc' (stepN (sm.1 7) (sm.1 10) (sm.1 11) (sm.1 14) wh la)) (hm : MN T wh la sm sm') : RR sc' sm' := by
  have hN := hV.1
  obtain ⟨c1, c2, c3, c4, c5, c6, c7⟩ := hc
  obtain ⟨m1, m2, m3, m4, m5, m6⟩ := hm
  obtain ⟨t1, t2, t3, t4, t5, t6⟩ := hT
  have hcg : ∀ i, i ≤ T → nowN (sm'.1 7) (sm'.1 10) (sm'.1 11) (sc'.1 37) (sc'.1 41) i = nowN (sm.1 7) (sm.1 10) (sm.1 11) (sc.1 37) (sc.1 41) i := fun i hi => by
    rw [m5 7 (by omega) (by omega) (by omega), m5 10 (by omega) (by omega) (by omega), m5 11 (by omega) (by omega) (by omega)]
    refine (nowN_congr hN (fun p _ => ⟨rfl, rfl, rfl⟩) i (fun j hj => ⟨t4 j (by omega), ?_, ?_⟩)).symm
    · rw [c1, pk_un (by omega)]
    · rw [c2, pk_un (by omega)]
  refine ⟨⟨N, ?_, ?_, ⟨T + 1, ?_⟩, fun k hk => ?_⟩, RO_congr (fun k h1 h2 => c5 k (by omega) (by omega) (by omega) (by omega) (by omega)) (m5 2 (by omega) (by omega) (by omega)) (m5 3 (by omega) (by omega) (by omega)) h.2.1, RX_congr (fun k h1 h2 => c5 k (by omega) (by omega) (by omega) (by omega) (by omega)) (m5 5 (by omega) (by omega) (by omega)) (m5 6 (by omega) (by omega) (by omega)) h.2.2.1, ?_⟩
  · refine ⟨hN, c4.trans hV.2.1, by rw [m4, pk_un (by omega)]; exact hV.2.2.1, fun p hp => ?_⟩
    obtain ⟨d1, d2⟩ := hV.2.2.2 p hp
    rw [m5 8 (by omega) (by omega) (by omega), m5 9 (by omega) (by omega) (by omega), m5 12 (by omega) (by omega) (by omega)]
    exact ⟨fun j hj => by rw [m5 (7 + j) (by omega) (by omega) (by omega), c6 p j (by omega) hj]; exact d1 j hj, d2⟩
  · refine ⟨fun p hp => ?_, ?_, ?_⟩
    · rw [m1 p (by omega), m1 (6 + p) (by omega)]; exact hn.1 p hp
    · rw [m1 12 (by omega)]; exact hn.2.1
    · rw [m1 13 (by omega)]; exact hn.2.2
  · refine ⟨by omega, c3, by rw [m4, pk_us], fun i hi => ?_, fun j hj => ?_, fun i hi j hj => ?_⟩
    · rw [c1]
      by_cases e : i = T
      · subst e; rw [pk_us]; exact hw
      · rw [pk_un e]; exact t4 i (by omega)
    · show _ = stepN (sm'.1 7) (sm'.1 10) (sm'.1 11) (nowN (sm'.1 7) (sm'.1 10) (sm'.1 11) (sc'.1 37) (sc'.1 41) T) (sc'.1 37 T) (sc'.1 41 T) j
      rw [hcg T (by omega), c1, c2, pk_us, pk_us, m1 j hj, m5 7 (by omega) (by omega) (by omega), m5 10 (by omega) (by omega) (by omega), m5 11 (by omega) (by omega) (by omega)]
      exact stepN_w hN hw t5 j hj
    · rw [hcg i (by omega)]
      by_cases e : i = T
      · subst e; rw [m2 j hj]; exact t5 j hj
      · rw [m3 _ (by omega)]; exact t6 i (by omega) j hj
  · have := hK k hk
    unfold RK RK1 at this ⊢
    rw [c5 (24 + k) (by omega) (by omega) (by omega) (by omega) (by omega), c5 (30 + k) (by omega) (by omega) (by omega) (by omega) (by omega), c5 (27 + k) (by omega) (by omega) (by omega) (by omega) (by omega), c5 (34 + k) (by omega) (by omega) (by omega) (by omega) (by omega), c5 (38 + k) (by omega) (by omega) (by omega) (by omega) (by omega), m5 16 (by omega) (by omega) (by omega), m5 17 (by omega) (by omega) (by omega), m5 18 (by omega) (by omega) (by omega), m5 19 (by omega) (by omega) (by omega), m5 20 (by omega) (by omega) (by omega), m5 7 (by omega) (by omega) (by omega), m5 10 (by omega) (by omega) (by omega)]
    exact this
  · obtain ⟨a, b, c, d, e⟩ := h.2.2.2
    unfold RF
    rw [c5 0 (by omega) (by omega) (by omega) (by omega) (by omega), c5 43 (by omega) (by omega) (by omega) (by omega) (by omega), m4, pk_un (by omega), pk_un (by omega), m5 1 (by omega) (by omega) (by omega), c7, m6]
    exact ⟨a, b, c, d, e⟩
theorem n60' : (60 : Int32) = nI 60 := by decide +kernel
/-- write, then let it happen -/
theorem e_one {N T : Nat} {sc : St} {kd us ot w : Nat → Int32} (hF : CF N sc kd us ot) (hC : CN N sc w) (hT : sc.1 33 2 = nI T) (hT6 : T < 60) {wh : Int32} (la : Int32) (hw : okT N wh) : ∃ s1 v sc', f_X4_write 33 wh la sc = some s1 ∧ f_X3_happen wh la s1 = some (v, sc') ∧ CX N T wh la sc sc' ∧ CN N sc' (stepN kd us ot w wh la) ∧ ∀ p, p < N → wh = nI p → v = takF (kd p) (us p) (ot p) (w p) (w 12) la := by
  have hN := hF.1
  have e1 : f_X4_write 33 wh la sc = some (sA (sA (sA sc 37 (upd (sc.1 37) T wh)) 41 (upd (sc.1 41) T la)) 33 (upd (sc.1 33) 2 (nI (T + 1)))) := by
    unfold f_X4_write
    rw [n60', hT, if_neg (nI_ge hT6 (by omega)), gd_i _ hT6 (by omega), ls_e, sA_n (show (33 : Nat) ≠ 33 + 4 by omega), hT, gd_i _ hT6 (by omega), ls_e, ls_e, sA_n (show (33 : Nat) ≠ 33 + 8 by omega), sA_n (show (33 : Nat) ≠ 33 + 4 by omega), hT, sA_n (show (33 + 8 : Nat) ≠ 33 + 4 by omega), nI_clamp (show T < 2 ^ 31 by omega), nI_1]
  generalize hs : sA (sA (sA sc 37 (upd (sc.1 37) T wh)) 41 (upd (sc.1 41) T la)) 33 (upd (sc.1 33) 2 (nI (T + 1))) = s1 at e1
  have o : ∀ k, k ≠ 33 → k ≠ 37 → k ≠ 41 → s1.1 k = sc.1 k := fun k h1 h2 h3 => by rw [← hs, sA_n h1, sA_n h3, sA_n h2]
  have hF1 : CF N s1 kd us ot := ⟨hN, by rw [o 15 (by omega) (by omega) (by omega)]; exact hF.2.1, fun p hp => by rw [o (17 + p) (by omega) (by omega) (by omega)]; exact hF.2.2 p hp⟩
  have hC1 : CN N s1 w := ⟨fun p hp => by rw [o (17 + p) (by omega) (by omega) (by omega)]; exact hC.1 p hp, by rw [o 15 (by omega) (by omega) (by omega)]; exact hC.2.1, by rw [o 15 (by omega) (by omega) (by omega)]; exact hC.2.2⟩
  obtain ⟨v, sc', e2, r1, r2, r3⟩ := e_happen hF1 hC1 la hw
  refine ⟨s1, v, sc', e1, e2, ⟨?_, ?_, ?_, ?_, ?_, ?_, ?_⟩, r1, r3⟩
  · rw [r2.1 37 (by omega) (by omega), ← hs, sA_n (by omega), sA_n (by omega), sA_k]
  · rw [r2.1 41 (by omega) (by omega), ← hs, sA_n (by omega), sA_k]
  · rw [r2.1 33 (by omega) (by omega), ← hs, sA_k, pk_us]
  · rw [r2.2.1, o 15 (by omega) (by omega) (by omega)]
  · intro k h1 h2 h3 h4 h5
    rw [r2.1 k h1 h2, o k h3 h4 h5]
  · intro p j hp hj
    rw [r2.2.2.1 p j hp hj, o (17 + p) (by omega) (by omega) (by omega)]
  · rw [r2.2.2.2, ← hs]; rfl
theorem R_CF {N : Nat} {sc sm : St} (hV : RV N sc sm) : CF N sc (sm.1 7) (sm.1 10) (sm.1 11) := ⟨hV.1, hV.2.1, fun p hp => by
  have d := (hV.2.2.2 p hp).1
  exact ⟨d 0 (by omega), d 3 (by omega), d 4 (by omega)⟩⟩
theorem R_CN {N : Nat} {sc sm : St} (hN : RN N sc sm) : CN N sc (sm.1 14) := ⟨hN.1, hN.2.1, hN.2.2⟩
theorem R_VV {N : Nat} {sc sm : St} (hV : RV N sc sm) (hN : RN N sc sm) : VV N sc sm := by
  refine ⟨hV.1, hV.2.1, hV.2.2.1, hN.2.1, hN.2.2, fun p hp => ?_⟩
  have f := (hV.2.2.2 p hp).1
  have g := hN.1 p hp
  exact ⟨f 0 (by omega), f 1 (by omega), f 2 (by omega), f 3 (by omega), f 4 (by omega), f 5 (by omega), g.1, g.2⟩
theorem t_one {N T : Nat} {sc sm : St} (h : RR sc sm) (hV : RV N sc sm) (hN : RN N sc sm) (hT : RT N T sc sm) (hK : ∀ k, k < 3 → RK N k sc sm) (hT6 : T < 60) {p : Nat} (hp : p < N) (la : Int32) : ∃ v sc' sm', f_X3_serveOne (nI p) la sc = some (v, sc') ∧ f_X6_serves (nI p) la sm = some (v, sm') ∧ RR sc' sm' ∧ sc'.1 33 2 = nI (T + 1) ∧ sc'.1 15 2 = nI N := by
  have hp6 : p < 6 := by have := hV.1; omega
  obtain ⟨s1, v, sc', e1, e2, e3, e4, e5⟩ := e_one (R_CF hV) (R_CN hN) hT.2.1 hT6 la (wh := nI p) (Or.inr ⟨p, hp, rfl⟩)
  obtain ⟨sm', m1, m2⟩ := m_serves hT.2.2.1 hT6 hp6 la
  refine ⟨v, sc', sm', ?_, ?_, R_next h hV hT hK hT6 (Or.inr ⟨p, hp, rfl⟩) e3 e4 m2, e3.2.2.1, by rw [e3.2.2.2.1]; exact hV.2.1⟩
  · unfold f_X3_serveOne
    rw [e1, b_s, e2, b_s]
  · rw [m1, e5 p hp rfl]
theorem s_serve {sc sm : St} (h : RR sc sm) (x y : Int32) : Sim (f_X5_serve x y sc) (f_X6_serve x y sm) := by
  obtain ⟨N, hV, hN, ⟨T, hT⟩, hK⟩ := h.1
  have hVV := R_VV hV hN
  unfold f_X5_serve f_X6_serve
  rcases (t_reg hVV x).symm with ⟨e1, e2⟩ | ⟨p, hp, rfl, e1, e2⟩
  · simp only [e1, e2, b_s, if_true]
    exact ⟨-1, sc, sm, rfl, rfl, h⟩
  rcases (t_laid y sc sm).symm with ⟨d1, d2⟩ | ⟨-, d1, d2⟩
  · simp only [e1, e2, d1, d2, b_s, z1, if_false, if_true]
    exact ⟨-1, sc, sm, rfl, rfl, h⟩
  have hp6 : p < 6 := by have := hV.1; omega
  obtain ⟨v0, v1, v2, v3, v4, v5, v6, v7⟩ := hVV.2.2.2.2.2 p hp
  simp only [e1, e2, d1, d2, b_s, z1, if_false, gd_i _ hp6 (show 6 < 2 ^ 31 by omega), nI_clamp (show p < 2 ^ 31 by omega), e_tak, gd_t _ in13, cl13, m_tak hp6, v0, v3, v4, v6, hVV.2.2.2.1, hVV.2.2.2.2.1, hT.2.1, hT.2.2.1, n60']
  by_cases q : sm.1 14 13 + takF (sm.1 7 p) (sm.1 10 p) (sm.1 11 p) (sm.1 14 p) (sm.1 14 12) y ≤ 9999
  · simp only [if_pos q]
    by_cases q6 : T < 60
    · rw [if_pos (nI_lt q6 (by omega)), if_neg (fun z => by have := (nI_eq (by omega) (by omega)).mp z; omega)]
      obtain ⟨v, sc', sm', r1, r2, r3, -⟩ := t_one h hV hN hT hK q6 hp y
      rw [r1, r2]
      exact ⟨v, sc', sm', rfl, rfl, r3⟩
    · have : T = 60 := by have := hT.1; omega
      subst this
      rw [if_neg (nI_nlt (Nat.le_refl _) (by omega)), if_pos rfl]
      exact ⟨-2, sc, sm, rfl, rfl, h⟩
  · simp only [if_neg q]
    exact ⟨-4, sc, sm, rfl, rfl, h⟩
theorem s_morning {sc sm : St} (h : RR sc sm) : Sim (f_X5_morning sc) (f_X6_morning sm) := by
  obtain ⟨N, hV, hN, ⟨T, hT⟩, hK⟩ := h.1
  have hN6 := hV.1
  unfold f_X5_morning f_X6_morning
  rw [hV.2.1, hV.2.2.1, hT.2.1, hT.2.2.1, n60']
  by_cases q : nI N = 0
  · rw [if_pos q, if_pos q]
    exact ⟨-4, sc, sm, rfl, rfl, h⟩
  rw [if_neg q, if_neg q]
  by_cases q6 : T < 60
  · rw [if_pos (nI_lt q6 (by omega)), if_neg (fun z => by have := (nI_eq (by omega) (by omega)).mp z; omega)]
    obtain ⟨s1, v, sc', e1, e2, e3, e4, -⟩ := e_one (R_CF hV) (R_CN hN) hT.2.1 q6 (-9) (wh := -9) (Or.inl rfl)
    obtain ⟨f, e, h1, h2⟩ := m_rem hT.2.2.1 q6
    unfold f_X3_beginMorning
    rw [e1, b_s, e2, b_s, e, b_s, b_s]
    simp only [gd_t _ in13, gd_t _ in12, cl13, cl12, ls_e, sA_sA, sA_k]
    rw [sA_n (show (14 : Nat) ≠ 0 by omega), sA_n (show (14 : Nat) ≠ 15 by omega)]
    have hm : MN T (-9) (-9) sm (sA (sA (sA sm 15 f) 0 (upd (sm.1 0) 21 (nI (T + 1)))) 14 (upd (upd (sm.1 14) 12 (sm.1 14 12 + 1)) 13 0)) := by
      refine ⟨fun j hj => ?_, fun j hj => ?_, fun q hq => ?_, ?_, fun k h0 h14 h15 => ?_, rfl⟩
      · rw [sA_k, stepN_9]
        by_cases e12 : j = 12
        · subst e12; rw [if_pos rfl, pk_un (by omega), pk_us]
        · rw [if_neg e12]
          by_cases e13 : j = 13
          · subst e13; rw [if_pos rfl, pk_us]
          · rw [if_neg e13, pk_un e13, pk_un e12]
      · rw [sA_n (by omega), sA_n (by omega), sA_k]; exact h1 j hj
      · rw [sA_n (by omega), sA_n (by omega), sA_k]; exact h2 q hq
      · rw [sA_n (by omega), sA_k]
      · rw [sA_n h14, sA_n h0, sA_n h15]
    refine ⟨_, sc', _, rfl, ?_, R_next h hV hT hK q6 (Or.inl rfl) e3 e4 hm⟩
    have : sc'.1 15 3 = upd (upd (sm.1 14) 12 (sm.1 14 12 + 1)) 13 0 12 := by
      rw [e4.2.1, stepN_9, if_pos rfl, pk_un (by omega), pk_us]
    rw [this]
  · have : T = 60 := by have := hT.1; omega
    subst this
    rw [if_neg (nI_nlt (Nat.le_refl _) (by omega)), if_pos rfl]
    exact ⟨-2, sc, sm, rfl, rfl, h⟩
