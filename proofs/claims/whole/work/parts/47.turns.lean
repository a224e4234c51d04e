/-! THE TURNS -/
theorem sA_id (st : St) (k : Nat) : sA st k (st.1 k) = st := by
  refine Prod.ext (funext fun q => ?_) rfl
  show (if q = k then st.1 k else st.1 q) = st.1 q
  by_cases e : q = k
  · rw [if_pos e, e]
  · rw [if_neg e]
/-- a row filled place by place -/
theorem cp_loop {body : Int32 × St → Option ((Int32 × St) ⊕ (Int32 × St))} {sm : St} (c N : Nat) (hN : N < 5000) (tgt : Nat → Nat) (src : Nat → Int32) (inj : ∀ i j, i < N → j < N → tgt i = tgt j → i = j)
    (hs : ∀ k g, k < N → body (nI k, sA sm c g) = some (.inl (nI (k + 1), sA sm c (upd g (tgt k) (src k)))))
    (he : ∀ g, body (nI N, sA sm c g) = some (.inr (nI N, sA sm c g))) : ∃ g, iter body fuel (0, sm) = some (nI N, sA sm c g) ∧ (∀ k, k < N → g (tgt k) = src k) ∧ ∀ q, (∀ k, k < N → q ≠ tgt k) → g q = sm.1 c q := by
  obtain ⟨x, e1, g, rfl, e2, e3⟩ := iter_inv (body := body) (Out := fun x => ∃ g, x = (nI N, sA sm c g) ∧ (∀ k, k < N → g (tgt k) = src k) ∧ ∀ q, (∀ k, k < N → q ≠ tgt k) → g q = sm.1 c q) (fun n v => ∃ g, v = (nI n, sA sm c g) ∧ (∀ k, k < n → g (tgt k) = src k) ∧ ∀ q, (∀ k, k < N → q ≠ tgt k) → g q = sm.1 c q) N hN (fun n v hn hS => by
    obtain ⟨g, rfl, h1, h2⟩ := hS
    by_cases hnN : n < N
    · refine Or.inl ⟨hnN, _, hs n g hnN, _, rfl, fun k hk => ?_, fun q hq => ?_⟩
      · by_cases e : k = n
        · subst e; rw [pk_us]
        · rw [pk_un (fun z => e (inj k n (by omega) hnN z))]
          exact h1 k (by omega)
      · rw [pk_un (hq n hnN)]
        exact h2 q hq
    · have : n = N := by omega
      subst this
      exact Or.inr ⟨_, he g, g, rfl, h1, h2⟩) (v := (0, sm)) ⟨sm.1 c, by rw [sA_id]; rfl, fun k hk => by omega, fun q hq => rfl⟩
  exact ⟨g, e1, e2, e3⟩
def CF (N : Nat) (sc : St) (kd us ot : Nat → Int32) : Prop := N ≤ 6 ∧ sc.1 15 2 = nI N ∧ ∀ p, p < N → sc.1 (17 + p) 0 = kd p ∧ sc.1 (17 + p) 3 = us p ∧ sc.1 (17 + p) 4 = ot p
def CN (N : Nat) (sc : St) (w : Nat → Int32) : Prop := (∀ p, p < N → sc.1 (17 + p) 6 = w p ∧ sc.1 (17 + p) 7 = w (6 + p)) ∧ sc.1 15 3 = w 12 ∧ sc.1 15 4 = w 13
/-- nothing but what is counted has changed -/
def CS (sc sc' : St) : Prop := (∀ k, k ≠ 15 → ¬ (17 ≤ k ∧ k < 23) → sc'.1 k = sc.1 k) ∧ sc'.1 15 2 = sc.1 15 2 ∧ (∀ p j, p < 6 → j < 6 → sc'.1 (17 + p) j = sc.1 (17 + p) j) ∧ sc'.2 = sc.2
theorem CS.rf (sc : St) : CS sc sc := ⟨fun _ _ _ => rfl, rfl, fun _ _ _ _ => rfl, rfl⟩
theorem CS.tr {a b c : St} (h : CS a b) (g : CS b c) : CS a c := ⟨fun k x y => (g.1 k x y).trans (h.1 k x y), g.2.1.trans h.2.1, fun p j x y => (g.2.2.1 p j x y).trans (h.2.2.1 p j x y), g.2.2.2.trans h.2.2.2⟩
theorem CF.mv {N : Nat} {a b : St} {kd us ot : Nat → Int32} (h : CS a b) (g : CF N a kd us ot) : CF N b kd us ot := ⟨g.1, h.2.1.trans g.2.1, fun p hp => by
  have := g.1
  rw [h.2.2.1 p 0 (by omega) (by omega), h.2.2.1 p 3 (by omega) (by omega), h.2.2.1 p 4 (by omega) (by omega)]
  exact g.2.2 p hp⟩
theorem CN.mv {N : Nat} {a : St} {w w' : Nat → Int32} (hN : N ≤ 6) (h : ∀ j, j < 14 → w j = w' j) (g : CN N a w) : CN N a w' := ⟨fun p hp => by rw [← h p (by omega), ← h (6 + p) (by omega)]; exact g.1 p hp, by rw [← h 12 (by omega)]; exact g.2.1, by rw [← h 13 (by omega)]; exact g.2.2⟩
theorem souF_01 (kd us ot m th : Int32) : souF kd us ot m th = 0 ∨ souF kd us ot m th = 1 := by
  unfold souF
  repeat' split
  all_goals simp
theorem cs_15 (sc : St) (f : Nat → Int32) (h : f 2 = sc.1 15 2) : CS sc (sA sc 15 f) := ⟨fun k h1 _ => sA_n h1, by rw [sA_k]; exact h, fun p j hp _ => by rw [sA_n (by omega)], rfl⟩
theorem cs_17 (sc : St) (p : Nat) (hp : p < 6) (f : Nat → Int32) (h : ∀ j, j < 6 → f j = sc.1 (17 + p) j) : CS sc (sA sc (17 + p) f) := ⟨fun k _ h2 => sA_n (by omega), by rw [sA_n (by omega)], fun q j hq hj => by
  by_cases e : q = p
  · subst e; rw [sA_k]; exact h j hj
  · rw [sA_n (by omega)], rfl⟩
theorem n9p {p : Nat} (hp : p < 2 ^ 31) : ¬ nI p = -9 := fun e => by
  have := congrArg Int32.toInt e
  rw [nI_toInt hp] at this
  have e9 : (-9 : Int32).toInt = -9 := by decide
  omega
theorem stepN_9 (kd us ot w : Nat → Int32) (la : Int32) (j : Nat) : stepN kd us ot w (-9) la j = if j = 12 then w 12 + 1 else if j = 13 then 0 else w j := by
  unfold stepN
  rw [if_pos rfl]
theorem stepN_p (kd us ot w : Nat → Int32) (la : Int32) {p : Nat} (hp : p < 2 ^ 31) (j : Nat) : stepN kd us ot w (nI p) la j = if j = 13 then w 13 + takF (kd p) (us p) (ot p) (w p) (w 12) la else if j = p then w j + 1 else if j = 6 + p then w j + souF (kd p) (us p) (ot p) (w 12) la else w j := by
  unfold stepN
  rw [if_neg (n9p hp), nI_clamp hp]
theorem e_happen {N : Nat} {sc : St} {kd us ot w : Nat → Int32} (hF : CF N sc kd us ot) (hC : CN N sc w) {wh : Int32} (la : Int32) (hw : okT N wh) : ∃ v sc', f_X3_happen wh la sc = some (v, sc') ∧ CN N sc' (stepN kd us ot w wh la) ∧ CS sc sc' ∧ ∀ p, p < N → wh = nI p → v = takF (kd p) (us p) (ot p) (w p) (w 12) la := by
  have hN := hF.1
  rcases hw with rfl | ⟨p, hp, rfl⟩
  · refine ⟨_, _, by unfold f_X3_happen; rw [if_pos (by decide)]; simp only [ls_e]; rfl, ?_, ?_, ?_⟩
    · rw [sA_sA]
      refine ⟨fun q hq => ?_, ?_, ?_⟩
      · rw [stepN_9, stepN_9, sA_n (by omega), if_neg (by omega), if_neg (by omega), if_neg (by omega), if_neg (by omega)]
        exact hC.1 q hq
      · rw [stepN_9, sA_k, pk_un (by omega), sA_k, pk_us, if_pos rfl, hC.2.1]
      · rw [stepN_9, sA_k, pk_us, if_neg (by omega), if_pos rfl]
    · refine (cs_15 _ _ ?_).tr (cs_15 _ _ ?_)
      · rw [pk_un (by omega)]
      · rw [pk_un (by omega)]
    · intro q hq e
      have := congrArg Int32.toInt e
      rw [nI_toInt (by omega)] at this
      have e9 : (-9 : Int32).toInt = -9 := by decide
      omega
  · have hp6 : p < 6 := by omega
    obtain ⟨f0, f3, f4⟩ := hF.2.2 p hp
    obtain ⟨c6, c7⟩ := hC.1 p hp
    unfold f_X3_happen
    rw [if_neg (nI_pos (by omega)), hF.2.1, if_pos (nI_lt hp (by omega)), gd_i _ hp6 (by omega), nI_clamp (show p < 2 ^ 31 by omega), e_tak, b_s]
    dsimp only
    rw [e_sou, b_s]
    dsimp only
    rw [f0, f3, f4, c6, hC.2.1]
    simp only [ls_e]
    rcases souF_01 (kd p) (us p) (ot p) (w 12) la with z | z
    · rw [z, if_pos rfl]
      refine ⟨_, _, rfl, ?_, ?_, ?_⟩
      ·
        refine ⟨fun q hq => ?_, ?_, ?_⟩
        · rw [stepN_p _ _ _ _ _ (show p < 2 ^ 31 by omega), stepN_p _ _ _ _ _ (show p < 2 ^ 31 by omega), z, sA_n (by omega), if_neg (show ¬ q = 13 by omega), if_neg (show ¬ 6 + q = 13 by omega)]
          obtain ⟨d6, d7⟩ := hC.1 q hq
          by_cases e : q = p
          · subst e
            rw [sA_k, pk_us, pk_un (by omega), if_pos rfl, if_neg (show ¬ 6 + q = q by omega), if_pos rfl, d7]
            exact ⟨rfl, by rw [add0]⟩
          · rw [sA_n (by omega), if_neg e, if_neg (show ¬ q = 6 + p by omega), if_neg (show ¬ 6 + q = p by omega), if_neg (show ¬ 6 + q = 6 + p by omega)]
            exact ⟨d6, d7⟩
        · rw [stepN_p _ _ _ _ _ (show p < 2 ^ 31 by omega), sA_k, pk_un (by omega), sA_n (by omega), if_neg (show ¬ (12 : Nat) = 13 by omega), if_neg (show ¬ 12 = p by omega), if_neg (show ¬ 12 = 6 + p by omega), hC.2.1]
        · rw [stepN_p _ _ _ _ _ (show p < 2 ^ 31 by omega), sA_k, pk_us, sA_n (by omega), if_pos rfl, hC.2.2]
      · refine (cs_17 sc p hp6 _ (fun j hj => ?_)).tr (cs_15 _ _ ?_)
        · rw [pk_un (by omega)]
        · rw [pk_un (by omega)]
      · intro q hq e
        have := (nI_eq (by omega) (by omega)).mp e
        subst this
        rfl
    · rw [z, if_neg (by decide)]
      refine ⟨_, _, rfl, ?_, ?_, ?_⟩
      · rw [sA_sA]
        refine ⟨fun q hq => ?_, ?_, ?_⟩
        · rw [stepN_p _ _ _ _ _ (show p < 2 ^ 31 by omega), stepN_p _ _ _ _ _ (show p < 2 ^ 31 by omega), z, sA_n (by omega), if_neg (show ¬ q = 13 by omega), if_neg (show ¬ 6 + q = 13 by omega)]
          obtain ⟨d6, d7⟩ := hC.1 q hq
          by_cases e : q = p
          · subst e
            rw [sA_k, pk_us, pk_un (by omega), sA_k, pk_us, pk_un (by omega), if_pos rfl, if_neg (show ¬ 6 + q = q by omega), if_pos rfl, d7, d6]
            exact ⟨rfl, rfl⟩
          · rw [sA_n (by omega), if_neg e, if_neg (show ¬ q = 6 + p by omega), if_neg (show ¬ 6 + q = p by omega), if_neg (show ¬ 6 + q = 6 + p by omega)]
            exact ⟨d6, d7⟩
        · rw [stepN_p _ _ _ _ _ (show p < 2 ^ 31 by omega), sA_k, pk_un (by omega), sA_n (by omega), if_neg (show ¬ (12 : Nat) = 13 by omega), if_neg (show ¬ 12 = p by omega), if_neg (show ¬ 12 = 6 + p by omega), hC.2.1]
        · rw [stepN_p _ _ _ _ _ (show p < 2 ^ 31 by omega), sA_k, pk_us, sA_n (by omega), if_pos rfl, hC.2.2]
      · refine ((cs_17 sc p hp6 _ (fun j hj => ?_)).tr (cs_17 _ p hp6 _ (fun j hj => ?_))).tr (cs_15 _ _ ?_)
        · rw [pk_un (by omega)]
        · rw [pk_un (by omega)]
        · rw [pk_un (by omega)]
      · intro q hq e
        have := (nI_eq (by omega) (by omega)).mp e
        subst this
        rfl
theorem stepN_w {N : Nat} (hN : N ≤ 6) {kd us ot w w' : Nat → Int32} {wh la : Int32} (hw : okT N wh) (h : ∀ j, j < 14 → w j = w' j) (j : Nat) (hj : j < 14) : stepN kd us ot w wh la j = stepN kd us ot w' wh la j := by
  rcases hw with rfl | ⟨p, hp, rfl⟩
  · rw [stepN_9, stepN_9, h j hj, h 12 (by omega)]
  · rw [stepN_p _ _ _ _ _ (show p < 2 ^ 31 by omega), stepN_p _ _ _ _ _ (show p < 2 ^ 31 by omega), h j hj, h 12 (by omega), h 13 (by omega), h p (by omega)]
/-- the class goes through its first t turns again -/
theorem e_go {N T t : Nat} {sc : St} {kd us ot : Nat → Int32} (hF : CF N sc kd us ot) (hT : sc.1 33 2 = nI T) (hT6 : T ≤ 60) (ht : t ≤ T) (hw : ∀ i, i < t → okT N (sc.1 37 i)) : ∃ sc', f_X3_goThrough (nI t) sc = some sc' ∧ CN N sc' (nowN kd us ot (sc.1 37) (sc.1 41) t) ∧ CS (sA sc 33 (upd (sc.1 33) 2 (nI t))) sc' := by
  have hN := hF.1
  unfold f_X3_goThrough
  simp only [ls_e]
  rw [sA_sA]
  generalize hs1 : sA sc 15 (upd ((sA sc 15 (upd (sc.1 15) 3 0)).1 15) 4 0) = s1
  have q1 : CS sc s1 := by
    rw [← hs1]
    exact cs_15 _ _ (by rw [pk_un (by omega), sA_k, pk_un (by omega)])
  have q3 : s1.1 15 3 = 0 := by rw [← hs1, sA_k, pk_un (by omega), sA_k, pk_us]
  have q4 : s1.1 15 4 = 0 := by rw [← hs1, sA_k, pk_us]
  obtain ⟨v, e1, s2, rfl, p1, p2, p3, p4⟩ := iter_inv (body := fun v : Int32 × St => l_X3_goThrough_12 (nI t) v.1 v.2) (Out := fun v => ∃ s, v = (nI N, s) ∧ CS sc s ∧ (∀ p, p < N → s.1 (17 + p) 6 = 0 ∧ s.1 (17 + p) 7 = 0) ∧ s.1 15 3 = 0 ∧ s.1 15 4 = 0) (fun k v => ∃ s, v = (nI k, s) ∧ CS sc s ∧ (∀ p, p < k → s.1 (17 + p) 6 = 0 ∧ s.1 (17 + p) 7 = 0) ∧ s.1 15 3 = 0 ∧ s.1 15 4 = 0) N (by omega) (fun k v hk hS => by
    obtain ⟨s, rfl, a1, a2, a3, a4⟩ := hS
    dsimp only
    unfold l_X3_goThrough_12
    rw [a1.2.1, hF.2.1]
    by_cases hkN : k < N
    · rw [if_neg (nI_ge hkN (by omega)), gd_i _ (show k < 6 by omega) (by omega), ls_e, gd_i _ (show k < 6 by omega) (by omega), ls_e, nI_clamp (show k < 2 ^ 31 by omega), nI_1, sA_sA, sA_k]
      refine Or.inl ⟨hkN, _, rfl, _, rfl, a1.tr (cs_17 _ k (by omega) _ (fun j hj => by rw [pk_un (by omega), pk_un (by omega)])), fun p hp => ?_, by rw [sA_n (by omega)]; exact a3, by rw [sA_n (by omega)]; exact a4⟩
      by_cases e : p = k
      · subst e
        rw [sA_k, pk_us, pk_un (by omega), pk_us]
        exact ⟨rfl, rfl⟩
      · rw [sA_n (by omega)]
        exact a2 p (by omega)
    · have : k = N := by omega
      subst this
      rw [if_pos (nI_le (Nat.le_refl _) (by omega))]
      exact Or.inr ⟨_, rfl, s, rfl, a1, a2, a3, a4⟩) (v := (0, s1)) ⟨s1, rfl, q1, fun p hp => by omega, q3, q4⟩
  rw [e1, b_s]
  dsimp only
  rw [p1.1 33 (by omega) (by omega), hT, show (if nI T < nI t then nI T else nI t) = nI t from if_neg (nI_nlt ht (by omega))]
  generalize hs3 : sA s2 33 (upd (sc.1 33) 2 (nI t)) = s3
  have r0 : CS (sA sc 33 (upd (sc.1 33) 2 (nI t))) s3 := by
    rw [← hs3]
    refine ⟨fun k h1 h2 => ?_, by rw [sA_n (by omega), sA_n (by omega)]; exact p1.2.1, fun p j hp hj => by rw [sA_n (by omega), sA_n (by omega)]; exact p1.2.2.1 p j hp hj, p1.2.2.2⟩
    by_cases e : k = 33
    · subst e; rw [sA_k, sA_k]
    · rw [sA_n e, sA_n e]; exact p1.1 k h1 h2
  have rF : CF N (sA sc 33 (upd (sc.1 33) 2 (nI t))) kd us ot := ⟨hN, by rw [sA_n (by omega)]; exact hF.2.1, fun p hp => by rw [sA_n (by omega)]; exact hF.2.2 p hp⟩
  have r1 : CN N s3 (nowN kd us ot (sc.1 37) (sc.1 41) 0) := by
    rw [← hs3]
    exact ⟨fun p hp => by rw [sA_n (by omega)]; exact p2 p hp, by rw [sA_n (by omega)]; exact p3, by rw [sA_n (by omega)]; exact p4⟩
  obtain ⟨v, e2, s4, rfl, b1, b2⟩ := iter_inv (body := fun v : Int32 × St => l_X3_goThrough_66 (nI t) v.1 v.2) (Out := fun v => ∃ s, v = (nI t, s) ∧ CS (sA sc 33 (upd (sc.1 33) 2 (nI t))) s ∧ CN N s (nowN kd us ot (sc.1 37) (sc.1 41) t)) (fun k v => ∃ s, v = (nI k, s) ∧ CS (sA sc 33 (upd (sc.1 33) 2 (nI t))) s ∧ CN N s (nowN kd us ot (sc.1 37) (sc.1 41) k)) t (by omega) (fun k v hk hS => by
    obtain ⟨s, rfl, a1, a2⟩ := hS
    dsimp only
    unfold l_X3_goThrough_66
    rw [a1.1 33 (by omega) (by omega), sA_k, pk_us, a1.1 37 (by omega) (by omega), a1.1 41 (by omega) (by omega), sA_n (show (37 : Nat) ≠ 33 by omega), sA_n (show (41 : Nat) ≠ 33 by omega)]
    by_cases hkt : k < t
    · rw [if_neg (nI_ge hkt (by omega)), gd_i _ (show k < 60 by omega) (by omega), gd_i _ (show k < 60 by omega) (by omega), nI_clamp (show k < 2 ^ 31 by omega)]
      obtain ⟨v, s', c1, c2, c3, -⟩ := e_happen (rF.mv a1) a2 (sc.1 41 k) (hw k hkt)
      rw [c1, b_s, nI_1]
      exact Or.inl ⟨hkt, _, rfl, _, rfl, a1.tr c3, c2⟩
    · have : k = t := by omega
      subst this
      rw [if_pos (nI_le (Nat.le_refl _) (by omega))]
      exact Or.inr ⟨_, rfl, s, rfl, a1, a2⟩) (v := (0, s3)) ⟨s3, rfl, r0, r1⟩
  rw [e2, b_s]
  exact ⟨s4, rfl, b2, b1⟩
