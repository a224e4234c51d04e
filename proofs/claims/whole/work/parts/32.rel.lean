/-! THE RELATION between the class's state and the reference's -/
def stepN (kd us ot w : Nat → Int32) (wh la : Int32) : Nat → Int32 := fun j =>
  if wh = -9 then (if j = 12 then w 12 + 1 else if j = 13 then 0 else w j)
  else if j = 13 then w 13 + takF (kd wh.toNatClampNeg) (us wh.toNatClampNeg) (ot wh.toNatClampNeg) (w wh.toNatClampNeg) (w 12) la
  else if j = wh.toNatClampNeg then w j + 1
  else if j = 6 + wh.toNatClampNeg then w j + souF (kd wh.toNatClampNeg) (us wh.toNatClampNeg) (ot wh.toNatClampNeg) (w 12) la
  else w j
def nowN (kd us ot wh la : Nat → Int32) : Nat → Nat → Int32
  | 0 => fun _ => 0
  | i + 1 => stepN kd us ot (nowN kd us ot wh la i) (wh i) (la i)
def okT (N : Nat) (x : Int32) : Prop := x = -9 ∨ ∃ p, p < N ∧ x = nI p
theorem stepN_congr {N : Nat} (hN : N ≤ 6) {kd us ot kd' us' ot' w : Nat → Int32} (h : ∀ p, p < N → kd p = kd' p ∧ us p = us' p ∧ ot p = ot' p) {wh la : Int32} (hw : okT N wh) : stepN kd us ot w wh la = stepN kd' us' ot' w wh la := by
  funext j
  unfold stepN
  rcases hw with rfl | ⟨p, hp, rfl⟩
  · simp
  · obtain ⟨h1, h2, h3⟩ := h p hp
    rw [nI_clamp (show p < 2 ^ 31 by omega), h1, h2, h3]
theorem nowN_congr {N : Nat} (hN : N ≤ 6) {kd us ot kd' us' ot' wh la wh' la' : Nat → Int32} (h : ∀ p, p < N → kd p = kd' p ∧ us p = us' p ∧ ot p = ot' p) : ∀ (T : Nat), (∀ i, i < T → okT N (wh i) ∧ wh i = wh' i ∧ la i = la' i) → nowN kd us ot wh la T = nowN kd' us' ot' wh' la' T
  | 0, _ => rfl
  | T + 1, hv => by
    show stepN kd us ot (nowN kd us ot wh la T) (wh T) (la T) = stepN kd' us' ot' (nowN kd' us' ot' wh' la' T) (wh' T) (la' T)
    obtain ⟨h1, h2, h3⟩ := hv T (by omega)
    rw [nowN_congr hN h T (fun i hi => hv i (by omega)), ← h2, ← h3]
    exact stepN_congr hN h h1
def RV (N : Nat) (sc sm : St) : Prop := N ≤ 6 ∧ sc.1 15 2 = nI N ∧ sm.1 0 10 = nI N ∧ ∀ p, p < N → (∀ j, j < 6 → sc.1 (17 + p) j = sm.1 (7 + j) p) ∧ (∃ h, h < 4 ∧ sm.1 8 p = nI h) ∧ (∃ h, h < 4 ∧ sm.1 9 p = nI h) ∧ ∃ c, 1 ≤ c ∧ c ≤ 9 ∧ sm.1 12 p = nI c
def RN (N : Nat) (sc sm : St) : Prop := (∀ p, p < N → sc.1 (17 + p) 6 = sm.1 14 p ∧ sc.1 (17 + p) 7 = sm.1 14 (6 + p)) ∧ sc.1 15 3 = sm.1 14 12 ∧ sc.1 15 4 = sm.1 14 13
def RT (N T : Nat) (sc sm : St) : Prop := T ≤ 60 ∧ sc.1 33 2 = nI T ∧ sm.1 0 21 = nI T ∧ (∀ i, i < T → okT N (sc.1 37 i)) ∧ (∀ j, j < 14 → sm.1 14 j = nowN (sm.1 7) (sm.1 10) (sm.1 11) (sc.1 37) (sc.1 41) T j) ∧ ∀ i, i < T → ∀ j, j < 14 → sm.1 15 (14 * i + j) = nowN (sm.1 7) (sm.1 10) (sm.1 11) (sc.1 37) (sc.1 41) i j
def RK1 (N T k : Nat) (sc sm : St) : Prop := T ≤ 60 ∧ sc.1 (30 + k) 2 = nI T ∧ sm.1 17 k = nI T ∧ (∀ p, p < N → sc.1 (27 + k) p = sm.1 18 (6 * k + p)) ∧ (∀ i, i < T → okT N (sc.1 (34 + k) i)) ∧ (∀ j, j < 14 → sm.1 19 (14 * k + j) = nowN (sm.1 7) (sm.1 10) (fun p => sm.1 18 (6 * k + p)) (sc.1 (34 + k)) (sc.1 (38 + k)) T j) ∧ ∀ i, i < T → ∀ j, j < 14 → sm.1 20 (840 * k + (14 * i + j)) = nowN (sm.1 7) (sm.1 10) (fun p => sm.1 18 (6 * k + p)) (sc.1 (34 + k)) (sc.1 (38 + k)) i j
def RK (N k : Nat) (sc sm : St) : Prop := sc.1 (24 + k) 2 = sm.1 16 k ∧ (sm.1 16 k = 0 ∨ (sm.1 16 k = 1 ∧ ∃ T, RK1 N T k sc sm))
def RS (sc sm : St) : Prop := ∃ N, RV N sc sm ∧ RN N sc sm ∧ (∃ T, RT N T sc sm) ∧ ∀ k, k < 3 → RK N k sc sm
def RO (sc sm : St) : Prop := ∀ r, r < 6 → sc.1 8 r = sm.1 2 r ∧ (sm.1 2 r = -1 ∨ ∃ n, n ≤ 40 ∧ sm.1 2 r = nI n ∧ ∀ i, i < n → sc.1 (2 + r) i = sm.1 3 (40 * r + i))
def RX (sc sm : St) : Prop := ∀ t, t < 4 → sc.1 14 t = sm.1 5 t ∧ (sm.1 5 t = -1 ∨ ∃ n, n ≤ 60 ∧ sm.1 5 t = nI n ∧ ∀ i, i < n → sc.1 (10 + t) i = sm.1 6 (60 * t + i))
def RF (sc sm : St) : Prop := sc.1 0 8 = sm.1 0 0 ∧ sc.1 0 9 = sm.1 0 2 ∧ (∀ f, f < 6 → sc.1 43 f = sm.1 1 f) ∧ sc.2 0 = sm.2 0 ∧ sc.2 1 = sm.2 1
def RR (sc sm : St) : Prop := RS sc sm ∧ RO sc sm ∧ RX sc sm ∧ RF sc sm
theorem RS_congr {sc sm sc' sm' : St} (hc : ∀ k, 15 ≤ k → k < 42 → sc'.1 k = sc.1 k) (hm : ∀ k, 7 ≤ k → k < 21 → k ≠ 13 → sm'.1 k = sm.1 k) (h10 : sm'.1 0 10 = sm.1 0 10) (h21 : sm'.1 0 21 = sm.1 0 21) (h : RS sc sm) : RS sc' sm' := by
  obtain ⟨N, hV, hN, ⟨T, hT⟩, hK⟩ := h
  have hN6 := hV.1
  refine ⟨N, ?_, ?_, ⟨T, ?_⟩, ?_⟩
  · obtain ⟨a, b, c, d⟩ := hV
    refine ⟨a, by rw [hc 15 (by omega) (by omega)]; exact b, by rw [h10]; exact c, fun p hp => ?_⟩
    obtain ⟨d1, d2, d3, d4⟩ := d p hp
    rw [hm 8 (by omega) (by omega) (by omega), hm 9 (by omega) (by omega) (by omega), hm 12 (by omega) (by omega) (by omega), hc (17 + p) (by omega) (by omega)]
    exact ⟨fun j hj => by rw [hm (7 + j) (by omega) (by omega) (by omega)]; exact d1 j hj, d2, d3, d4⟩
  · obtain ⟨a, b, c⟩ := hN
    refine ⟨fun p hp => ?_, by rw [hc 15 (by omega) (by omega), hm 14 (by omega) (by omega) (by omega)]; exact b, by rw [hc 15 (by omega) (by omega), hm 14 (by omega) (by omega) (by omega)]; exact c⟩
    rw [hc (17 + p) (by omega) (by omega), hm 14 (by omega) (by omega) (by omega)]
    exact a p hp
  · unfold RT at hT ⊢
    rw [hc 33 (by omega) (by omega), hc 37 (by omega) (by omega), hc 41 (by omega) (by omega), h21, hm 14 (by omega) (by omega) (by omega), hm 15 (by omega) (by omega) (by omega), hm 7 (by omega) (by omega) (by omega), hm 10 (by omega) (by omega) (by omega), hm 11 (by omega) (by omega) (by omega)]
    exact hT
  · intro k hk
    have := hK k hk
    unfold RK RK1 at this ⊢
    rw [hc (24 + k) (by omega) (by omega), hc (30 + k) (by omega) (by omega), hc (27 + k) (by omega) (by omega), hc (34 + k) (by omega) (by omega), hc (38 + k) (by omega) (by omega), hm 16 (by omega) (by omega) (by omega), hm 17 (by omega) (by omega) (by omega), hm 18 (by omega) (by omega) (by omega), hm 19 (by omega) (by omega) (by omega), hm 20 (by omega) (by omega) (by omega), hm 7 (by omega) (by omega) (by omega), hm 10 (by omega) (by omega) (by omega)]
    exact this
theorem RO_congr {sc sm sc' sm' : St} (hc : ∀ k, 2 ≤ k → k ≤ 8 → sc'.1 k = sc.1 k) (h2 : sm'.1 2 = sm.1 2) (h3 : sm'.1 3 = sm.1 3) (h : RO sc sm) : RO sc' sm' := by
  intro r hr
  rw [hc 8 (by omega) (by omega), hc (2 + r) (by omega) (by omega), h2, h3]
  exact h r hr
theorem RX_congr {sc sm sc' sm' : St} (hc : ∀ k, 10 ≤ k → k ≤ 14 → sc'.1 k = sc.1 k) (h2 : sm'.1 5 = sm.1 5) (h3 : sm'.1 6 = sm.1 6) (h : RX sc sm) : RX sc' sm' := by
  intro r hr
  rw [hc 14 (by omega) (by omega), hc (10 + r) (by omega) (by omega), h2, h3]
  exact h r hr
/-- nothing but findings, what is told, and scratch has changed -/
theorem R_F {sc sm sc' sm' : St} (h : RR sc sm) (hc : ∀ k, 1 ≤ k → k < 42 → sc'.1 k = sc.1 k) (hm : ∀ k, 2 ≤ k → k < 21 → k ≠ 4 → k ≠ 13 → sm'.1 k = sm.1 k) (h10 : sm'.1 0 10 = sm.1 0 10) (h21 : sm'.1 0 21 = sm.1 0 21) (hF : RF sc' sm') : RR sc' sm' :=
  ⟨RS_congr (fun k h1 h2 => hc k (by omega) h2) (fun k h1 h2 h3 => hm k (by omega) h2 (by omega) h3) h10 h21 h.1, RO_congr (fun k h1 h2 => hc k (by omega) (by omega)) (hm 2 (by omega) (by omega) (by omega) (by omega)) (hm 3 (by omega) (by omega) (by omega) (by omega)) h.2.1, RX_congr (fun k h1 h2 => hc k (by omega) (by omega)) (hm 5 (by omega) (by omega) (by omega) (by omega)) (hm 6 (by omega) (by omega) (by omega) (by omega)) h.2.2.1, hF⟩
def Sim (a b : Option (Int32 × St)) : Prop := ∃ r sc sm, a = some (r, sc) ∧ b = some (r, sm) ∧ RR sc sm
def SimL (a b : Option (Int64 × St)) : Prop := ∃ r sc sm, a = some (r, sc) ∧ b = some (r, sm) ∧ RR sc sm
theorem Sim.mk {a b : Option (Int32 × St)} (r : Int32) (sc sm : St) (h1 : a = some (r, sc)) (h2 : b = some (r, sm)) (h : RR sc sm) : Sim a b := ⟨r, sc, sm, h1, h2, h⟩
/-! findings, what is told -/
theorem s_found {sc sm : St} (h : RR sc sm) {x : Int32} (f : Nat) (hf : f < 6) (hx : x = nI f) : ∃ sc' sm', f_X5_found x sc = some (-3, sc') ∧ f_X6_meets x sm = some (-3, sm') ∧ RR sc' sm' := by
  subst hx
  refine ⟨_, _, by
    unfold f_X5_found
    simp only [ls_e, gd_i _ hf (show 6 < 2 ^ 31 by omega)]
    exact rfl, by
    unfold f_X6_meets
    simp only [ls_e, gd_i _ hf (show 6 < 2 ^ 31 by omega)]
    exact rfl, ?_⟩
  refine R_F h (fun k h1 h2 => by rw [sA_n (by omega), sA_n (by omega)]) (fun k h1 h2 h3 h4 => by rw [sA_n (by omega), sA_n (by omega)]) ?_ ?_ ?_
  · rw [sA_n (by omega), sA_k]; rfl
  · rw [sA_n (by omega), sA_k]; rfl
  · obtain ⟨a, b, c, d, e⟩ := h.2.2.2
    have n1 : (0 : Nat) ≠ 43 := by omega
    have n2 : (43 : Nat) ≠ 0 := by omega
    have n3 : (0 : Nat) ≠ 1 := by omega
    have n4 : (1 : Nat) ≠ 0 := by omega
    refine ⟨?_, ?_, ?_, d, e⟩
    · rw [sA_n n1, sA_k, sA_n n3, sA_k]; rfl
    · rw [sA_n n1, sA_k, sA_n n3, sA_k]; exact b
    · intro g hg
      rw [sA_k, sA_k, sA_n n2, sA_n n4, nI_clamp (show f < 2 ^ 31 by omega)]
      by_cases e : g = f
      · subst e; rw [pk_us, pk_us, c g hg]
      · rw [pk_un e, pk_un e, c g hg]
theorem s_ask {sc sm : St} (h : RR sc sm) (v : Int32) : RR (sA sc 0 (upd (sc.1 0) 9 v)) (sA sm 0 (upd (sm.1 0) 2 v)) := by
  refine R_F h (fun k h1 h2 => sA_n (by omega)) (fun k h1 h2 h3 h4 => sA_n (by omega)) (by rw [sA_k]; rfl) (by rw [sA_k]; rfl) ?_
  obtain ⟨a, b, c, d, e⟩ := h.2.2.2
  refine ⟨by rw [sA_k, sA_k]; exact a, by rw [sA_k, sA_k]; rfl, fun f hf => ?_, d, e⟩
  rw [sA_n (by omega), sA_n (by omega)]
  exact c f hf
theorem s_asked {sc sm : St} (h : RR sc sm) : Sim (f_X5_asked sc) (f_X6_asked sm) := ⟨sc.1 0 9, sc, sm, rfl, by rw [h.2.2.2.2.1]; rfl, h⟩
theorem s_finding {sc sm : St} (h : RR sc sm) : Sim (f_X5_finding sc) (f_X6_finding sm) := ⟨sc.1 0 8, sc, sm, rfl, by rw [h.2.2.2.1]; rfl, h⟩
theorem s_upper {sc sm : St} (h : RR sc sm) : SimL (f_X5_upper sc) (f_X6_upper sm) := ⟨sc.2 0, sc, sm, rfl, by rw [h.2.2.2.2.2.2.1]; rfl, h⟩
theorem s_lower {sc sm : St} (h : RR sc sm) : SimL (f_X5_lower sc) (f_X6_lower sm) := ⟨sc.2 1, sc, sm, rfl, by rw [h.2.2.2.2.2.2.2]; rfl, h⟩
/-! numbers that are what they should be -/
theorem m_in {x lo hi : Int32} (st : St) : f_X6_in x lo hi st = some (if x < lo then 0 else if hi < x then 0 else 1, st) := by
  unfold f_X6_in
  split
  · rfl
  · split <;> rfl
theorem t_ix (n : Nat) (hn : n < 2 ^ 30) (x hi : Int32) (hh : hi = nI n) {sm : St} : (∃ j, j ≤ n ∧ x = nI j ∧ f_X6_in x 0 hi sm = some (1, sm)) ∨ (f_X6_in x 0 hi sm = some (0, sm) ∧ (x < 0 ∨ (¬ x < 0 ∧ nI (n + 1) ≤ x))) := by
  subst hh
  rw [m_in]
  rcases ix (x := x) (n + 1) (by omega) with ⟨j, hj, rfl⟩ | ⟨h1, h2⟩ | ⟨h1, h2⟩
  · refine Or.inl ⟨j, by omega, rfl, ?_⟩
    rw [if_neg (nI_pos (by omega)), if_neg (nI_nlt (by omega) (by omega))]
  · exact Or.inr ⟨by rw [if_pos h1], Or.inl h1⟩
  · refine Or.inr ⟨?_, Or.inr ⟨h1, h2⟩⟩
    rw [if_neg h1, if_pos]
    have a := Int32.le_iff_toInt_le.mp h2
    rw [nI_toInt (by omega)] at a
    rw [Int32.lt_iff_toInt_lt, nI_toInt (by omega)]
    omega
theorem t_isRow (x : Int32) (sc sm : St) : (∃ j, j < 6 ∧ x = nI j ∧ f_X5_isRow x sc = some (1, sc) ∧ f_X6_isRow x sm = some (1, sm)) ∨ (f_X5_isRow x sc = some (0, sc) ∧ f_X6_isRow x sm = some (0, sm)) := by
  unfold f_X5_isRow f_X6_isRow
  rw [show (6 : Int32) = nI 6 by decide +kernel]
  rcases t_ix 5 (by omega) x 5 (by decide +kernel) (sm := sm) with ⟨j, hj, rfl, e⟩ | ⟨e, h | ⟨h1, h2⟩⟩
  · left
    refine ⟨j, by omega, rfl, ?_, ?_⟩
    · rw [if_neg (nI_pos (by omega)), if_neg (nI_ge (by omega) (by omega))]
    · rw [e]; rfl
  · right
    exact ⟨by rw [if_pos h], by rw [e]; rfl⟩
  · right
    exact ⟨by rw [if_neg h1, if_pos h2], by rw [e]; rfl⟩
theorem t_isText (x : Int32) (sc sm : St) : (∃ j, j < 4 ∧ x = nI j ∧ f_X5_isText x sc = some (1, sc) ∧ f_X6_isText x sm = some (1, sm)) ∨ (f_X5_isText x sc = some (0, sc) ∧ f_X6_isText x sm = some (0, sm)) := by
  unfold f_X5_isText f_X6_isText
  rw [show (4 : Int32) = nI 4 by decide +kernel]
  rcases t_ix 3 (by omega) x 3 (by decide +kernel) (sm := sm) with ⟨j, hj, rfl, e⟩ | ⟨e, h | ⟨h1, h2⟩⟩
  · left
    refine ⟨j, by omega, rfl, ?_, ?_⟩
    · rw [if_neg (nI_pos (by omega)), if_neg (nI_ge (by omega) (by omega))]
    · rw [e]; rfl
  · right
    exact ⟨by rw [if_pos h], by rw [e]; rfl⟩
  · right
    exact ⟨by rw [if_neg h1, if_pos h2], by rw [e]; rfl⟩
