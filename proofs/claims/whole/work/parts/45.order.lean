/-! ORDER -/
def flg (sm : St) (p : Nat) : Int32 := knoF (sm.1 14 p)
def cntF (fl : Nat → Int32) (b : Int32) : Nat → Nat := nS (fun q => if fl q = b then 1 else 0)
def linF (fl : Nat → Int32) (b : Int32) (s : Nat) (g : Nat → Int32) : Nat → Nat → Int32
  | 0 => g
  | k + 1 => if fl k = b then upd (linF fl b s g k) (s + cntF fl b k) (nI k) else linF fl b s g k
theorem cnt_s {fl : Nat → Int32} {b : Int32} {k : Nat} (h : fl k = b) : cntF fl b (k + 1) = cntF fl b k + 1 := by
  show cntF fl b k + (if fl k = b then 1 else 0) = _
  rw [if_pos h]
theorem cnt_n {fl : Nat → Int32} {b : Int32} {k : Nat} (h : ¬ fl k = b) : cntF fl b (k + 1) = cntF fl b k := by
  show cntF fl b k + (if fl k = b then 1 else 0) = _
  rw [if_neg h]
  rfl
theorem cnt_le (fl : Nat → Int32) (b : Int32) : ∀ k, cntF fl b k ≤ k
  | 0 => Nat.le_refl 0
  | k + 1 => by
    have := cnt_le fl b k
    by_cases h : fl k = b
    · rw [cnt_s h]; omega
    · rw [cnt_n h]; omega
theorem cnt_01 {fl : Nat → Int32} (h : ∀ p, fl p = 0 ∨ fl p = 1) : ∀ k, cntF fl 1 k + cntF fl 0 k = k
  | 0 => rfl
  | k + 1 => by
    have ih := cnt_01 h k
    rcases h k with e | e
    · rw [cnt_s (b := 0) e, cnt_n (b := 1) (by rw [e]; decide)]; omega
    · rw [cnt_s (b := 1) e, cnt_n (b := 0) (by rw [e]; decide)]; omega
theorem lin_low {fl : Nat → Int32} {b : Int32} {s : Nat} {g : Nat → Int32} {i : Nat} (hi : i < s) : ∀ k, linF fl b s g k i = g i
  | 0 => rfl
  | k + 1 => by
    show (if fl k = b then upd (linF fl b s g k) (s + cntF fl b k) (nI k) else linF fl b s g k) i = _
    split
    · rw [pk_un (by omega)]; exact lin_low hi k
    · exact lin_low hi k
theorem lin_in {fl : Nat → Int32} {b : Int32} {s : Nat} {g : Nat → Int32} {i : Nat} : ∀ k, s ≤ i → i < s + cntF fl b k → ∃ p, p < k ∧ fl p = b ∧ ∀ h : Nat → Int32, linF fl b s h k i = nI p
  | 0, h1, h2 => by
    have : cntF fl b 0 = 0 := rfl
    omega
  | k + 1, h1, h2 => by
    by_cases e : fl k = b
    · rw [cnt_s e] at h2
      by_cases hi : i = s + cntF fl b k
      · refine ⟨k, by omega, e, fun h => ?_⟩
        show (if fl k = b then upd (linF fl b s h k) (s + cntF fl b k) (nI k) else linF fl b s h k) i = _
        rw [if_pos e, hi, pk_us]
      · obtain ⟨p, hp, e2, e3⟩ := lin_in (fl := fl) (b := b) (s := s) (g := g) (i := i) k h1 (by omega)
        refine ⟨p, by omega, e2, fun h => ?_⟩
        show (if fl k = b then upd (linF fl b s h k) (s + cntF fl b k) (nI k) else linF fl b s h k) i = _
        rw [if_pos e, pk_un hi]
        exact e3 h
    · rw [cnt_n e] at h2
      obtain ⟨p, hp, e2, e3⟩ := lin_in (fl := fl) (b := b) (s := s) (g := g) (i := i) k h1 h2
      refine ⟨p, by omega, e2, fun h => ?_⟩
      show (if fl k = b then upd (linF fl b s h k) (s + cntF fl b k) (nI k) else linF fl b s h k) i = _
      rw [if_neg e]
      exact e3 h
theorem flg_01 (sm : St) (p : Nat) : flg sm p = 0 ∨ flg sm p = 1 := by
  unfold flg knoF
  split
  · exact Or.inl rfl
  · exact Or.inr rfl
/-- the two runs, one behind the other: known ones first -/
def twoF (sm : St) (N : Nat) (g : Nat → Int32) : Nat → Int32 := linF (flg sm) 0 (cntF (flg sm) 1 N) (linF (flg sm) 1 0 g N) N
theorem two_in {sm : St} {N i : Nat} (hi : i < N) : ∃ p, p < N ∧ (flg sm p = 0 ↔ cntF (flg sm) 1 N ≤ i) ∧ ∀ g, twoF sm N g i = nI p := by
  have h01 := cnt_01 (flg_01 sm) N
  by_cases h : i < cntF (flg sm) 1 N
  · obtain ⟨p, hp, e, e2⟩ := lin_in (fl := flg sm) (b := 1) (s := 0) (g := fun _ => 0) (i := i) N (by omega) (by omega)
    refine ⟨p, hp, ⟨fun z => by rw [e] at z; exact absurd z (by decide), fun z => by omega⟩, fun g => ?_⟩
    unfold twoF
    rw [lin_low h]
    exact e2 g
  · obtain ⟨p, hp, e, e2⟩ := lin_in (fl := flg sm) (b := 0) (s := cntF (flg sm) 1 N) (g := fun _ => 0) (i := i) N (by omega) (by omega)
    exact ⟨p, hp, ⟨fun _ => by omega, fun _ => e⟩, fun g => e2 _⟩
theorem e_lineUp {N : Nat} {sc sm sc1 : St} (hV : VV N sc sm) {r s : Nat} (hr : r < 6) {b : Int32} (hs : s + N ≤ 40) (hc : ∀ k, k ≠ 2 + r → k ≠ 8 → sc1.1 k = sc.1 k) : f_X5_lineUp (nI r) (nI s) b sc1 = some (nI (s + cntF (flg sm) b N), sA sc1 (2 + r) (linF (flg sm) b s (sc1.1 (2 + r)) N)) := by
  have hN := hV.1
  unfold f_X5_lineUp
  obtain ⟨g, e, o1, o2, o3, o4⟩ := iter_inv (body := fun v : Int32 × Int32 × St => l_X5_lineUp_6 (nI r) (nI s) b v.1 v.2.1 v.2.2) (Out := fun g => g.1 = nI (s + cntF (flg sm) b N) ∧ (∀ k, k ≠ 2 + r → g.2.2.1 k = sc1.1 k) ∧ g.2.2.2 = sc1.2 ∧ g.2.2.1 (2 + r) = linF (flg sm) b s (sc1.1 (2 + r)) N)
    (fun k v => v.1 = nI (s + cntF (flg sm) b k) ∧ v.2.1 = nI k ∧ (∀ q, q ≠ 2 + r → v.2.2.1 q = sc1.1 q) ∧ v.2.2.2 = sc1.2 ∧ v.2.2.1 (2 + r) = linF (flg sm) b s (sc1.1 (2 + r)) k) N (by omega) (by
      rintro k ⟨a, c, st⟩ hk ⟨e1, e2, h1, h2, h3⟩
      dsimp only at e1 e2 h1 h2 h3 ⊢
      subst e1
      subst e2
      unfold l_X5_lineUp_6
      have h15 : st.1 15 2 = nI N := by rw [h1 15 (by omega), hc 15 (by omega) (by omega)]; exact hV.2.1
      rw [h15]
      by_cases hkn : k < N
      · left
        refine ⟨hkn, ?_⟩
        have hcl := cnt_le (flg sm) b k
        have k6 : st.1 (17 + k) 6 = sm.1 14 k := by rw [h1 (17 + k) (by omega), hc (17 + k) (by omega) (by omega)]; exact (hV.2.2.2.2.2 k hkn).2.2.2.2.2.2.1
        simp only [if_neg (nI_ge hkn (show N < 2 ^ 31 by omega)), gd_i _ (show k < 6 by omega) (show 6 < 2 ^ 31 by omega), nI_clamp (show k < 2 ^ 31 by omega), e_kno, b_s, k6, gd_i _ hr (show 6 < 2 ^ 31 by omega), gd_i _ (show s + cntF (flg sm) b k < 40 by omega) (show 40 < 2 ^ 31 by omega), nI_clamp (show r < 2 ^ 31 by omega), nI_clamp (show s + cntF (flg sm) b k < 2 ^ 31 by omega), ls_e, nI_1]
        by_cases q : flg sm k = b
        · have q' : knoF (sm.1 14 k) = b := q
          rw [if_pos q']
          refine ⟨_, rfl, by dsimp only; rw [cnt_s q]; rfl, rfl, fun y hy => by rw [sA_n hy]; exact h1 y hy, h2, ?_⟩
          dsimp only
          rw [sA_k, h3]
          show _ = (if flg sm k = b then _ else _)
          rw [if_pos q]
        · have q' : ¬ knoF (sm.1 14 k) = b := q
          rw [if_neg q']
          refine ⟨_, rfl, by dsimp only; rw [cnt_n q], rfl, h1, h2, ?_⟩
          dsimp only
          rw [h3]
          show _ = (if flg sm k = b then _ else _)
          rw [if_neg q]
      · right
        have : k = N := by omega
        subst this
        rw [if_pos (nI_le (Nat.le_refl k) (by omega))]
        exact ⟨_, rfl, rfl, h1, h2, h3⟩) (v := (nI s, 0, sc1)) ⟨rfl, nI_0.symm, fun _ _ => rfl, rfl, rfl⟩
  rw [e, b_s, o1]
  congr 2
  obtain ⟨ga, gb, gs, gt⟩ := g
  dsimp only at o2 o3 o4 ⊢
  subst o3
  unfold sA
  congr 1
  funext q
  by_cases hq : q = 2 + r
  · subst hq; rw [if_pos rfl]; exact o4
  · rw [if_neg hq]; exact o2 q hq
theorem m_lineUp {N : Nat} {sm st : St} (hN : N ≤ 6) (hn : sm.1 0 10 = nI N) {s : Nat} {x1 w b : Int32} (hw : (w = 1 ∧ b = 1) ∨ (w = 0 ∧ b = 0)) (hs : s + cntF (flg sm) b N ≤ 6) (hc : ∀ k, k ≠ 21 → st.1 k = sm.1 k) : iter (fun v : Int32 × Int32 × St => l_X6_order_30 x1 w v.1 v.2.1 v.2.2) fuel (nI s, 0, st) = some (nI (s + cntF (flg sm) b N), nI N, sA st 21 (linF (flg sm) b s (st.1 21) N)) := by
  obtain ⟨g, e, o1, o0, o2, o3, o4⟩ := iter_inv (body := fun v : Int32 × Int32 × St => l_X6_order_30 x1 w v.1 v.2.1 v.2.2) (Out := fun g => g.1 = nI (s + cntF (flg sm) b N) ∧ g.2.1 = nI N ∧ (∀ k, k ≠ 21 → g.2.2.1 k = st.1 k) ∧ g.2.2.2 = st.2 ∧ g.2.2.1 21 = linF (flg sm) b s (st.1 21) N)
    (fun k v => v.1 = nI (s + cntF (flg sm) b k) ∧ v.2.1 = nI k ∧ (∀ q, q ≠ 21 → v.2.2.1 q = st.1 q) ∧ v.2.2.2 = st.2 ∧ v.2.2.1 21 = linF (flg sm) b s (st.1 21) k) N (by omega) (by
      rintro k ⟨a, c, t⟩ hk ⟨e1, e2, h1, h2, h3⟩
      dsimp only at e1 e2 h1 h2 h3 ⊢
      subst e1
      subst e2
      unfold l_X6_order_30
      have h15 : t.1 0 10 = nI N := by rw [h1 0 (by omega), hc 0 (by omega)]; exact hn
      have h14 : t.1 14 = sm.1 14 := by rw [h1 14 (by omega), hc 14 (by omega)]
      rw [h15]
      by_cases hkn : k < N
      · left
        refine ⟨hkn, ?_⟩
        simp only [if_neg (nI_ge hkn (show N < 2 ^ 31 by omega)), m_kno (show k < 6 by omega), b_s, h14, nI_1]
        by_cases q : flg sm k = b
        · have q' : knoF (sm.1 14 k) = b := q
          have hlt : cntF (flg sm) b k < cntF (flg sm) b N := by
            have mono : ∀ d, cntF (flg sm) b (k + 1) ≤ cntF (flg sm) b (k + 1 + d) := by
              intro d
              induction d with
              | zero => exact Nat.le_refl _
              | succ d ih =>
                show _ ≤ cntF (flg sm) b (k + 1 + d) + _
                omega
            have := mono (N - (k + 1))
            rw [show k + 1 + (N - (k + 1)) = N by omega, cnt_s q] at this
            omega
          refine ⟨(nI (s + cntF (flg sm) b (k + 1)), nI (k + 1), sA t 21 (upd (t.1 21) (s + cntF (flg sm) b k) (nI k))), ?_, rfl, rfl, fun y hy => by rw [sA_n hy]; exact h1 y hy, h2, ?_⟩
          · rw [cnt_s q]
            rcases hw with ⟨rfl, rfl⟩ | ⟨rfl, rfl⟩
            · rw [if_pos rfl, if_pos q', gd_i _ (show s + cntF (flg sm) 1 k < 6 by omega) (by omega), ls_e, nI_clamp (show s + cntF (flg sm) 1 k < 2 ^ 31 by omega)]
              rfl
            · rw [if_neg (by decide), if_pos q', gd_i _ (show s + cntF (flg sm) 0 k < 6 by omega) (by omega), ls_e, nI_clamp (show s + cntF (flg sm) 0 k < 2 ^ 31 by omega)]
              rfl
          · dsimp only
            rw [sA_k, h3]
            show _ = (if flg sm k = b then _ else _)
            rw [if_pos q]
        · have q' : ¬ knoF (sm.1 14 k) = b := q
          refine ⟨(nI (s + cntF (flg sm) b (k + 1)), nI (k + 1), t), ?_, rfl, rfl, h1, h2, ?_⟩
          · rw [cnt_n q]
            rcases hw with ⟨rfl, rfl⟩ | ⟨rfl, rfl⟩
            · rw [if_pos rfl, if_neg q']
            · rw [if_neg (by decide), if_neg q']
          · dsimp only
            rw [h3]
            show _ = (if flg sm k = b then _ else _)
            rw [if_neg q]
      · right
        have : k = N := by omega
        subst this
        rw [if_pos (nI_le (Nat.le_refl k) (by omega))]
        exact ⟨_, rfl, rfl, rfl, h1, h2, h3⟩) (v := (nI s, 0, st)) ⟨rfl, nI_0.symm, fun _ _ => rfl, rfl, rfl⟩
  rw [e]
  obtain ⟨ga, gb, gs, gt⟩ := g
  dsimp only at o1 o0 o2 o3 o4 ⊢
  subst o3
  subst o1
  subst o0
  congr 3
  unfold sA
  congr 1
  funext q
  by_cases hq : q = 21
  · subst hq; rw [if_pos rfl]; exact o4
  · rw [if_neg hq]; exact o2 q hq
/-- the seconds waited -/
def ordG (K : Nat) : Nat → Int32
  | 0 => 0
  | k + 1 => if K ≤ k then ordG K k + 40 else ordG K k + 9
def ordW (K : Nat) : Nat → Int32
  | 0 => 0
  | k + 1 => ordW K k + ordG K k
theorem sA_sA (st : St) (k : Nat) (f g : Nat → Int32) : sA (sA st k f) k g = sA st k g := by
  unfold sA
  congr 1
  funext q
  dsimp only
  split <;> rfl
theorem m_layRow {sm : St} {r N : Nat} (hr : r < 6) (hN : N ≤ 6) : ∃ s2, f_X6_layRow (nI r) (nI N) sm = some s2 ∧ (∀ k, k ≠ 3 → k ≠ 2 → s2.1 k = sm.1 k) ∧ s2.2 = sm.2 ∧ s2.1 2 = upd (sm.1 2) r (nI N) ∧ (∀ i, i < N → s2.1 3 (40 * r + i) = sm.1 21 i) ∧ ∀ q, q < 6 → q ≠ r → ∀ i, i < 40 → s2.1 3 (40 * q + i) = sm.1 3 (40 * q + i) := by
  unfold f_X6_layRow
  obtain ⟨g, e, o1, o2, o3, o4, o5⟩ := iter_inv (body := fun v : Int32 × St => l_X6_layRow_10 (nI r) (nI N) v.1 v.2) (Out := fun g => (∀ k, k ≠ 3 → k ≠ 2 → g.2.1 k = sm.1 k) ∧ g.2.2 = sm.2 ∧ g.2.1 2 = upd (sm.1 2) r (nI N) ∧ (∀ i, i < N → g.2.1 3 (40 * r + i) = sm.1 21 i) ∧ ∀ q, q < 6 → q ≠ r → ∀ i, i < 40 → g.2.1 3 (40 * q + i) = sm.1 3 (40 * q + i))
    (fun k v => v.1 = nI k ∧ (∀ q, q ≠ 3 → q ≠ 2 → v.2.1 q = sm.1 q) ∧ v.2.2 = sm.2 ∧ v.2.1 2 = upd (sm.1 2) r (nI N) ∧ (∀ i, i < k → i < N → v.2.1 3 (40 * r + i) = sm.1 21 i) ∧ ∀ q, q < 6 → q ≠ r → ∀ i, i < 40 → v.2.1 3 (40 * q + i) = sm.1 3 (40 * q + i)) 40 (by omega) (by
      rintro k ⟨v, st⟩ hk ⟨e, h1, h2, h3, h4, h5⟩
      dsimp only at e h1 h2 h3 h4 h5 ⊢
      subst e
      unfold l_X6_layRow_10
      rw [ix40]
      by_cases hkn : k < 40
      · left
        refine ⟨hkn, (nI (k + 1), sA st 3 (upd (st.1 3) (40 * r + k) (if N ≤ k then 0 else st.1 21 k))), ?_, rfl, fun q hq hq2 => by rw [sA_n hq]; exact h1 q hq hq2, h2, by rw [sA_n (by omega)]; exact h3, fun i hi hiN => ?_, fun q hq hqr i hi => ?_⟩
        · rw [n40, if_neg (nI_ge hkn (by omega)), gd_i _ (show 40 * r + k < 240 by omega) (by omega), gd_i _ (show 40 * r + k < 240 by omega) (by omega), nI_clamp (show 40 * r + k < 2 ^ 31 by omega), ls_e, ls_e, nI_1]
          by_cases q : N ≤ k
          · rw [if_pos (nI_le q (by omega)), if_pos q]
          · rw [if_neg (nI_ge (show k < N by omega) (by omega)), if_neg q, gd_i _ (show k < 6 by omega) (by omega), nI_clamp (show k < 2 ^ 31 by omega)]
        · dsimp only
          rw [sA_k]
          by_cases e : i = k
          · subst e; rw [pk_us, if_neg (by omega), h1 21 (by omega) (by omega)]
          · rw [pk_un (by omega)]; exact h4 i (by omega) hiN
        · dsimp only
          rw [sA_k, pk_un (by omega)]
          exact h5 q hq hqr i hi
      · right
        have : k = 40 := by omega
        subst this
        exact ⟨(nI 40, st), by rw [n40, if_pos (nI_le (Nat.le_refl 40) (by omega))], h1, h2, h3, fun i hi => h4 i (by omega) hi, h5⟩) (v := (0, sA sm 2 (upd (sm.1 2) r (nI N)))) ⟨nI_0.symm, fun q _ hq => sA_n hq, rfl, sA_k, fun i hi => by omega, fun q _ _ i _ => by rw [sA_n (by omega)]⟩
  rw [gd_i _ hr (by omega), ls_e, nI_clamp (show r < 2 ^ 31 by omega), e]
  exact ⟨g.2, rfl, o1, o2, o3, o4, o5⟩
theorem s_order {sc sm : St} (h : RR sc sm) (x : Int32) : Sim (f_X5_order x sc) (f_X6_order x sm) := by
  obtain ⟨N, hV, hB⟩ := R_V h
  have hN := hV.1
  unfold f_X5_order f_X6_order
  rcases t_isRow x sc sm with ⟨r, hr, rfl, e1, e2⟩ | ⟨e1, e2⟩
  · simp only [e1, e2, b_s, z1, if_false, hV.2.1, hV.2.2.1]
    by_cases hz : nI N = 0
    · simp only [if_pos hz]
      exact ⟨-4, sc, sm, rfl, rfl, h⟩
    simp only [if_neg hz]
    have h01 := cnt_01 (flg_01 sm) N
    -- the class
    obtain ⟨s1, a1, p1, p2, p3, p4⟩ := c_make (sc := sc) hr (show N ≤ 40 by omega)
    rw [a1, b_s]
    have u1 := e_lineUp (sc1 := s1) hV hr (s := 0) (b := 1) (by omega) (fun k k1 k2 => p1 k k2 k1)
    rw [nI_0, Nat.zero_add] at u1
    have u2 := e_lineUp (sc1 := sA s1 (2 + r) (linF (flg sm) 1 0 (s1.1 (2 + r)) N)) hV hr (s := cntF (flg sm) 1 N) (b := 0) (by omega) (fun k k1 k2 => by rw [sA_n k1]; exact p1 k k2 k1)
    rw [sA_sA, sA_k, h01] at u2
    rw [u1, b_s]
    dsimp only
    rw [u2, b_s]
    dsimp only
    have hs15 : ∀ f, (sA s1 (2 + r) f).1 15 2 = nI N := fun f => by rw [sA_n (by omega), p1 15 (by omega) (by omega)]; exact hV.2.1
    have l1 := iter_fold (body := fun v : Int32 × Int32 × Int32 × St => l_X5_order_58 (nI r) (nI (cntF (flg sm) 1 N)) v.1 v.2.1 v.2.2.1 v.2.2.2) (fun k => (ordW (cntF (flg sm) 1 N) k, ordG (cntF (flg sm) 1 N) k, nI k, sA s1 (2 + r) (twoF sm N (s1.1 (2 + r))))) N (ordW (cntF (flg sm) 1 N) N, ordG (cntF (flg sm) 1 N) N, nI N, sA s1 (2 + r) (twoF sm N (s1.1 (2 + r)))) (by omega) (fun k hk => by
      dsimp only
      unfold l_X5_order_58
      show _ = some (Sum.inl (ordW (cntF (flg sm) 1 N) k + ordG (cntF (flg sm) 1 N) k, (if cntF (flg sm) 1 N ≤ k then ordG (cntF (flg sm) 1 N) k + 40 else ordG (cntF (flg sm) 1 N) k + 9), nI (k + 1), _))
      rw [hs15, if_neg (nI_ge hk (by omega)), lw_e, nI_1]
      by_cases q : cntF (flg sm) 1 N ≤ k
      · rw [if_pos (nI_le q (by omega)), if_pos q, lw_e]
      · rw [if_neg (nI_ge (show k < cntF (flg sm) 1 N by omega) (by omega)), if_neg q, lw_e]) (by
      dsimp only
      unfold l_X5_order_58
      rw [hs15, if_pos (nI_le (Nat.le_refl N) (by omega))])
    have l1' : iter (fun v : Int32 × Int32 × Int32 × St => l_X5_order_58 (nI r) (nI (cntF (flg sm) 1 N)) v.1 v.2.1 v.2.2.1 v.2.2.2) fuel (0, 0, 0, sA s1 (2 + r) (linF (flg sm) 0 (cntF (flg sm) 1 N) (linF (flg sm) 1 0 (s1.1 (2 + r)) N) N)) = _ := l1
    rw [l1', b_s]
    -- the reference
    have w1 := m_lineUp (st := sm) hN hV.2.2.1 (s := 0) (x1 := nI r) (w := 1) (b := 1) (Or.inl ⟨rfl, rfl⟩) (by omega) (fun _ _ => rfl)
    rw [nI_0, Nat.zero_add] at w1
    have w2 := m_lineUp (st := sA sm 21 (linF (flg sm) 1 0 (sm.1 21) N)) hN hV.2.2.1 (s := cntF (flg sm) 1 N) (x1 := nI r) (w := 0) (b := 0) (Or.inr ⟨rfl, rfl⟩) (by omega) (fun k hk => sA_n hk)
    rw [sA_sA, sA_k, h01] at w2
    have l2 := iter_fold (body := fun v : Int32 × Int32 × St => l_X6_order_23 (nI r) v.1 v.2.1 v.2.2) (fun k => if k = 0 then (0, 1, sm) else if k = 1 then (nI (cntF (flg sm) 1 N), 0, sA sm 21 (linF (flg sm) 1 0 (sm.1 21) N)) else (nI N, -1, sA sm 21 (twoF sm N (sm.1 21)))) 2 (nI N, -1, sA sm 21 (twoF sm N (sm.1 21))) (by omega) (fun k hk => by
      rcases (show k = 0 ∨ k = 1 by omega) with rfl | rfl
      · show l_X6_order_23 (nI r) 0 1 sm = _
        unfold l_X6_order_23
        rw [if_neg (by decide), w1, b_s]
        rfl
      · show l_X6_order_23 (nI r) (nI (cntF (flg sm) 1 N)) 0 (sA sm 21 (linF (flg sm) 1 0 (sm.1 21) N)) = _
        unfold l_X6_order_23
        rw [if_neg (by decide), w2, b_s]
        rfl) (by
      show l_X6_order_23 (nI r) (nI N) (-1) (sA sm 21 (twoF sm N (sm.1 21))) = _
      unfold l_X6_order_23
      rw [if_pos (by decide)])
    have l2' : iter (fun v : Int32 × Int32 × St => l_X6_order_23 (nI r) v.1 v.2.1 v.2.2) fuel (0, 1, sm) = _ := l2
    rw [l2', b_s]
    dsimp only
    have l3 := iter_fold (body := fun v : Int32 × Int32 × Int32 × St => l_X6_order_89 (nI r) (nI N) v.1 v.2.1 v.2.2.1 v.2.2.2) (fun k => (ordW (cntF (flg sm) 1 N) k, ordG (cntF (flg sm) 1 N) k, nI k, sA sm 21 (twoF sm N (sm.1 21)))) N (ordW (cntF (flg sm) 1 N) N, ordG (cntF (flg sm) 1 N) N, nI N, sA sm 21 (twoF sm N (sm.1 21))) (by omega) (fun k hk => by
      obtain ⟨p, hp, hfl, hv⟩ := two_in (sm := sm) hk
      dsimp only
      unfold l_X6_order_89
      show _ = some (Sum.inl (ordW (cntF (flg sm) 1 N) k + ordG (cntF (flg sm) 1 N) k, (if cntF (flg sm) 1 N ≤ k then ordG (cntF (flg sm) 1 N) k + 40 else ordG (cntF (flg sm) 1 N) k + 9), nI (k + 1), _))
      rw [sA_n (show (0 : Nat) ≠ 21 by omega), hV.2.2.1, if_neg (nI_ge hk (by omega)), lw_e, gd_i _ (show k < 6 by omega) (by omega), nI_clamp (show k < 2 ^ 31 by omega), sA_k, hv, m_kno (show p < 6 by omega), b_s, sA_n (show (14 : Nat) ≠ 21 by omega), nI_1]
      dsimp only
      have hfl' : (knoF (sm.1 14 p) = 0) ↔ cntF (flg sm) 1 N ≤ k := hfl
      by_cases q : cntF (flg sm) 1 N ≤ k
      · rw [if_pos (hfl'.mpr q), if_pos q, lw_e]
      · rw [if_neg (fun z => q (hfl'.mp z)), if_neg q, lw_e]) (by
      dsimp only
      unfold l_X6_order_89
      rw [sA_n (show (0 : Nat) ≠ 21 by omega), hV.2.2.1, if_pos (nI_le (Nat.le_refl N) (by omega))])
    have l3' : iter (fun v : Int32 × Int32 × Int32 × St => l_X6_order_89 (nI r) (nI N) v.1 v.2.1 v.2.2.1 v.2.2.2) fuel (0, 0, 0, sA sm 21 (twoF sm N (sm.1 21))) = _ := l3
    rw [l3', b_s]
    dsimp only
    rw [sA_n (show (0 : Nat) ≠ 21 by omega), hV.2.2.1]
    obtain ⟨s2, m1, q1, q2, q3, q4, q5⟩ := m_layRow (sm := sA sm 21 (twoF sm N (sm.1 21))) hr hN
    rw [m1, b_s]
    refine ⟨_, _, s2, rfl, rfl, ?_⟩
    refine R_row h r (fun k k1 k2 => by rw [sA_n k2]; exact p1 k k1 k2) hr p2 (fun k k1 k2 k3 k4 => by rw [q1 k k2 k1, sA_n k4]) q2 (fun q hq => by rw [sA_n (by omega), p3, pk_un hq]) (fun q hq => by rw [q3, pk_un hq, sA_n (by omega)]) (fun q hq hqr i hi => by rw [q5 q hq hqr i hi, sA_n (by omega)]) ⟨by rw [sA_n (by omega), p3, q3, pk_us, pk_us], Or.inr ⟨N, by omega, by rw [q3, pk_us], fun i hi => ?_⟩⟩
    obtain ⟨p, hp, -, hv⟩ := two_in (sm := sm) hi
    rw [sA_k, q4 i hi, sA_k, hv, hv]
  · simp only [e1, e2, b_s, if_true]
    exact ⟨-1, sc, sm, rfl, rfl, h⟩
