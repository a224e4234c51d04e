/-! QUEUES -/
def prvF (f : Nat → Int32) (k : Nat) : Int32 := if k = 0 then 0 else f (2 * k - 1)
def okQ (N : Nat) (f : Nat → Int32) (k : Nat) : Prop := (∃ p, p < N ∧ f (2 * k) = nI p) ∧ prvF f k ≤ f (2 * k + 1) ∧ f (2 * k + 1) ≤ 999
theorem n2 : (2 : Int32) = nI 2 := by decide +kernel
theorem nz2 : nz 2 = true := by decide +kernel
theorem reg_ok {N : Nat} {sc sm : St} (hV : VV N sc sm) (x : Int32) : ((∃ p, p < N ∧ x = nI p) ∧ f_X5_isRegular x sc = some (1, sc) ∧ f_X6_isRegular x sm = some (1, sm)) ∨ ((¬ ∃ p, p < N ∧ x = nI p) ∧ f_X5_isRegular x sc = some (0, sc) ∧ f_X6_isRegular x sm = some (0, sm)) := by
  rcases t_reg hV x with ⟨p, hp, rfl, e1, e2⟩ | ⟨e1, e2⟩
  · exact Or.inl ⟨⟨p, hp, rfl⟩, e1, e2⟩
  · refine Or.inr ⟨?_, e1, e2⟩
    rintro ⟨p, hp, rfl⟩
    unfold f_X5_isRegular at e1
    have := hV.1
    rw [hV.2.1, if_neg (nI_pos (by omega)), if_neg (nI_ge hp (by omega))] at e1
    have := congrArg (fun o : Option (Int32 × St) => o.map Prod.fst) e1
    simp at this
theorem e_isQueue {N : Nat} {sc sm : St} (hV : VV N sc sm) {r m : Nat} (hr : r < 6) (hm : m ≤ 20) {f : Nat → Int32} (hf : ∀ i, i < 2 * m → sc.1 (2 + r) i = f i) : ∃ v, f_X5_isQueue (2 + r) (nI (2 * m)) sc = some (v, sc) ∧ ((v = 1 ∧ ∀ k, k < m → okQ N f k) ∨ (v = 0 ∧ ¬ ∀ k, k < m → okQ N f k)) := by
  unfold f_X5_isQueue
  obtain ⟨g, e, ho⟩ := iter_inv (body := fun v : Int32 × Int32 × St => l_X5_isQueue_5 (2 + r) (nI (2 * m)) v.1 v.2.1 v.2.2) (Out := fun g => (g = .inl (0, sc) ∧ ¬ ∀ k, k < m → okQ N f k) ∨ (∃ a b, g = .inr (a, b, sc) ∧ ∀ k, k < m → okQ N f k))
    (fun k v => v = (prvF f k, nI (2 * k), sc) ∧ ∀ j, j < k → okQ N f j) m (by omega) (by
      rintro k v hk ⟨rfl, hall⟩
      dsimp only
      unfold l_X5_isQueue_5
      rw [nI_1]
      by_cases hkm : k < m
      · have h0 := hf (2 * k) (by omega)
        have h1 := hf (2 * k + 1) (by omega)
        simp only [if_neg (nI_ge (show 2 * k + 1 < 2 * m by omega) (show 2 * m < 2 ^ 31 by omega)), gd_i _ (show 2 * k < 40 by omega) (show 40 < 2 ^ 31 by omega), gd_i _ (show 2 * k + 1 < 40 by omega) (show 40 < 2 ^ 31 by omega), nI_clamp (show 2 * k < 2 ^ 31 by omega), nI_clamp (show 2 * k + 1 < 2 ^ 31 by omega), h0, h1]
        rcases reg_ok hV (f (2 * k)) with ⟨hp, e1, -⟩ | ⟨hp, e1, -⟩
        · simp only [e1, b_s, z1, if_false, h1, lw_e]
          by_cases hlt : f (2 * k + 1) < prvF f k
          · right
            rw [if_pos hlt]
            exact ⟨_, rfl, Or.inl ⟨rfl, fun z => Int32.not_le.mpr hlt (z k hkm).2.1⟩⟩
          · rw [if_neg hlt]
            by_cases hle : f (2 * k + 1) ≤ 999
            · left
              rw [if_pos hle]
              refine ⟨hkm, _, rfl, ?_, fun j hj => ?_⟩
              · have : prvF f (k + 1) = f (2 * k + 1) := by
                  unfold prvF
                  rw [if_neg (by omega), show 2 * (k + 1) - 1 = 2 * k + 1 by omega]
                rw [this, n2, nI_add, show 2 * k + 2 = 2 * (k + 1) by omega]
              · rcases Nat.lt_or_ge j k with z | z
                · exact hall j z
                · have : j = k := by omega
                  subst this
                  exact ⟨hp, Int32.not_lt.mp hlt, hle⟩
            · right
              rw [if_neg hle]
              exact ⟨_, rfl, Or.inl ⟨rfl, fun z => hle (z k hkm).2.2⟩⟩
        · right
          simp only [e1, b_s, if_true]
          exact ⟨_, rfl, Or.inl ⟨rfl, fun z => hp (z k hkm).1⟩⟩
      · right
        have : k = m := by omega
        subst this
        rw [if_pos (nI_le (show 2 * k ≤ 2 * k + 1 by omega) (by omega))]
        exact ⟨_, rfl, Or.inr ⟨_, _, rfl, hall⟩⟩) (v := (0, 0, sc)) ⟨by rw [show nI (2 * 0) = 0 by decide +kernel]; rfl, fun j hj => by omega⟩
  rw [e]
  rcases ho with ⟨rfl, hn⟩ | ⟨a, b, rfl, hall⟩
  · exact ⟨0, rfl, Or.inr ⟨rfl, hn⟩⟩
  · exact ⟨1, rfl, Or.inl ⟨rfl, hall⟩⟩
theorem m_queueLoop {N : Nat} {sc sm : St} (hV : VV N sc sm) {r m : Nat} (hr : r < 6) (hm : m ≤ 20) (hs : sm.1 2 r = nI (2 * m)) (x1 : Int32) : ∃ g : Int32 × Int32 × St, iter (fun v : Int32 × Int32 × St => l_X6_needQueue_71 (nI r) x1 v.1 v.2.1 v.2.2) fuel (1, 0, sm) = some g ∧ g.2.2 = sm ∧ ((g.1 = 1 ∧ ∀ k, k < m → okQ N (fun i => sm.1 3 (40 * r + i)) k) ∨ (g.1 = 0 ∧ ¬ ∀ k, k < m → okQ N (fun i => sm.1 3 (40 * r + i)) k)) := by
  refine iter_inv (body := fun v : Int32 × Int32 × St => l_X6_needQueue_71 (nI r) x1 v.1 v.2.1 v.2.2) (Out := fun g => g.2.2 = sm ∧ ((g.1 = 1 ∧ ∀ k, k < m → okQ N (fun i => sm.1 3 (40 * r + i)) k) ∨ (g.1 = 0 ∧ ¬ ∀ k, k < m → okQ N (fun i => sm.1 3 (40 * r + i)) k)))
    (fun k v => v.2 = (nI (2 * k), sm) ∧ ((v.1 = 1 ∧ ∀ j, j < k → okQ N (fun i => sm.1 3 (40 * r + i)) j) ∨ (v.1 = 0 ∧ ¬ ∀ j, j < m → okQ N (fun i => sm.1 3 (40 * r + i)) j))) m (by omega) (by
      rintro k ⟨w, v2⟩ hk ⟨e, hw⟩
      dsimp only at e hw ⊢
      subst e
      dsimp only
      unfold l_X6_needQueue_71
      rw [nI_1, n2, nI_add, show 2 * k + 2 = 2 * (k + 1) by omega]
      simp only [gd_i _ hr (show 6 < 2 ^ 31 by omega), nI_clamp (show r < 2 ^ 31 by omega), hs]
      by_cases hkm : k < m
      · left
        refine ⟨hkm, ?_⟩
        simp only [if_neg (nI_ge (show 2 * k < 2 * m by omega) (show 2 * m < 2 ^ 31 by omega)), m_rowAt hr (show 2 * k < 40 by omega), m_rowAt hr (show 2 * k + 1 < 40 by omega), b_s]
        rcases hw with ⟨rfl, hall⟩ | ⟨rfl, hnot⟩
        · simp only [z1, if_false]
          -- the step, for what stands ahead
          have step : ∀ ahead : Int32, ahead = prvF (fun i => sm.1 3 (40 * r + i)) k → ∃ w, ((f_X6_isRegular (sm.1 3 (40 * r + 2 * k)) sm).bind fun q26 => if q26.1 = 0 then (some (Sum.inl ((0 : Int32), nI (2 * (k + 1)), q26.2)) : Option ((Int32 × Int32 × St) ⊕ (Int32 × Int32 × St))) else (f_X6_in (q26.2.1 3 (40 * r + (2 * k + 1))) ahead 999 q26.2).bind fun q29 => if q29.1 = 0 then some (Sum.inl (0, nI (2 * (k + 1)), q29.2)) else some (Sum.inl (1, nI (2 * (k + 1)), q29.2))) = some (Sum.inl w) ∧ w.2 = (nI (2 * (k + 1)), sm) ∧ ((w.1 = 1 ∧ ∀ j, j < k + 1 → okQ N (fun i => sm.1 3 (40 * r + i)) j) ∨ (w.1 = 0 ∧ ¬ ∀ j, j < m → okQ N (fun i => sm.1 3 (40 * r + i)) j)) := by
            intro ahead ha
            rcases reg_ok hV (sm.1 3 (40 * r + 2 * k)) with ⟨hp, -, e1⟩ | ⟨hp, -, e1⟩
            · simp only [e1, b_s, z1, if_false, m_rowAt hr (show 2 * k + 1 < 40 by omega), m_in]
              by_cases h1 : sm.1 3 (40 * r + (2 * k + 1)) < ahead
              · simp only [if_pos h1, if_true]
                exact ⟨_, rfl, rfl, Or.inr ⟨rfl, fun z => Int32.not_le.mpr h1 (by rw [ha]; exact (z k hkm).2.1)⟩⟩
              · by_cases h2 : (999 : Int32) < sm.1 3 (40 * r + (2 * k + 1))
                · simp only [if_neg h1, if_pos h2, if_true]
                  exact ⟨_, rfl, rfl, Or.inr ⟨rfl, fun z => Int32.not_le.mpr h2 (z k hkm).2.2⟩⟩
                · simp only [if_neg h1, if_neg h2, z1, if_false]
                  refine ⟨_, rfl, rfl, Or.inl ⟨rfl, fun j hj => ?_⟩⟩
                  rcases Nat.lt_or_ge j k with z | z
                  · exact hall j z
                  · have : j = k := by omega
                    subst this
                    exact ⟨hp, by rw [← ha]; exact Int32.not_lt.mp h1, Int32.not_lt.mp h2⟩
            · simp only [e1, b_s, if_true]
              exact ⟨_, rfl, rfl, Or.inr ⟨rfl, fun z => hp (z k hkm).1⟩⟩
          by_cases hk0 : k = 0
          · have hz : nI (2 * k) = 0 := by rw [hk0]; decide +kernel
            rw [if_pos hz]
            exact step 0 (by unfold prvF; rw [if_pos hk0])
          · have hz : ¬ nI (2 * k) = 0 := nI_ne0 (by omega) (by omega)
            rw [if_neg hz]
            have hm1 : nI (2 * k) - 1 = nI (2 * k - 1) := by
              obtain ⟨j, hj⟩ : ∃ j, 2 * k = j + 1 := ⟨2 * k - 1, by omega⟩
              rw [hj, nI_pred, show j + 1 - 1 = j by omega]
            simp only [hm1, m_rowAt hr (show 2 * k - 1 < 40 by omega), b_s]
            exact step _ (by unfold prvF; rw [if_neg hk0])
        · simp only [if_true]
          by_cases hk0 : nI (2 * k) = 0
          · rw [if_pos hk0]
            exact ⟨_, rfl, rfl, Or.inr ⟨rfl, hnot⟩⟩
          · rw [if_neg hk0]
            have hk1 : 0 < k := Nat.pos_of_ne_zero (fun z => hk0 (by rw [z]; decide +kernel))
            have hm1 : nI (2 * k) - 1 = nI (2 * k - 1) := by
              obtain ⟨j, hj⟩ : ∃ j, 2 * k = j + 1 := ⟨2 * k - 1, by omega⟩
              rw [hj, nI_pred, show j + 1 - 1 = j by omega]
            simp only [hm1, m_rowAt hr (show 2 * k - 1 < 40 by omega), b_s]
            exact ⟨_, rfl, rfl, Or.inr ⟨rfl, hnot⟩⟩
      · right
        have : k = m := by omega
        subst this
        rw [if_pos (nI_le (Nat.le_refl (2 * k)) (by omega))]
        exact ⟨_, rfl, rfl, hw⟩) (v := (1, 0, sm)) ⟨by rw [show nI (2 * 0) = 0 by decide +kernel], Or.inl ⟨rfl, fun j hj => by omega⟩⟩
theorem okQ_congr {N : Nat} {f g : Nat → Int32} {m : Nat} (h : ∀ i, i < 2 * m → f i = g i) {k : Nat} (hk : k < m) : okQ N f k ↔ okQ N g k := by
  unfold okQ prvF
  rw [h (2 * k) (by omega), h (2 * k + 1) (by omega)]
  by_cases hk0 : k = 0
  · rw [if_pos hk0, if_pos hk0]
  · rw [if_neg hk0, if_neg hk0, h (2 * k - 1) (by omega)]
theorem rem2 {n : Nat} (hn : n < 2 ^ 31) : nI n - nI n / 2 * 2 = nI (n % 2) := by rw [n2]; exact pk_rem hn (by omega) (by omega)
/-- what may be refused of a queue is refused on both sides alike; or it is one -/
theorem t_queue {N : Nat} {sc sm : St} (h : RR sc sm) (hV : VV N sc sm) (x : Int32) : (∃ v sc' sm', f_X5_queueRefusal x sc = some (v, sc') ∧ f_X6_needQueue x 1 sm = some (v, sm') ∧ RR sc' sm' ∧ ¬ v = 0 ∧ ¬ 0 ≤ v) ∨
    ∃ r m, r < 6 ∧ m ≤ 8 ∧ x = nI r ∧ f_X5_queueRefusal x sc = some (0, sc) ∧ f_X6_needQueue x 1 sm = some (0, sm) ∧ sc.1 8 r = nI (2 * m) ∧ sm.1 2 r = nI (2 * m) ∧ (∀ i, i < 2 * m → sc.1 (2 + r) i = sm.1 3 (40 * r + i)) ∧ ∀ k, k < m → okQ N (fun i => sm.1 3 (40 * r + i)) k := by
  unfold f_X5_queueRefusal f_X6_needQueue
  rcases t_row h x with ⟨e1, e2⟩ | ⟨r, hr, rfl, e1, e2, hA⟩
  · left
    simp only [e1, e2, b_s, if_true, z1, if_false]
    exact ⟨-1, sc, sm, rfl, rfl, h, by decide, by decide⟩
  simp only [e1, e2, b_s, z1, if_false, hV.2.1, hV.2.2.1, gd_i _ hr (show 6 < 2 ^ 31 by omega), nI_clamp (show r < 2 ^ 31 by omega), gd_t _ nz2, b_eta]
  by_cases hz : nI N = 0
  · left
    simp only [if_pos hz]
    exact ⟨-4, sc, sm, rfl, rfl, h, by decide, by decide⟩
  simp only [if_neg hz]
  rcases hA with ⟨a, b⟩ | ⟨n, hn, a, b, c⟩
  · left
    obtain ⟨sc', sm', f1, f2, h'⟩ := s_found h (x := 1) 1 (by omega) (by decide +kernel)
    simp only [a, b, zge1, if_false, f1, f2]
    exact ⟨-3, sc', sm', rfl, rfl, h', by decide, by decide⟩
  obtain ⟨sc', sm', f1, f2, h'⟩ := s_found h (x := 5) 5 (by omega) (by decide +kernel)
  simp only [a, b, if_y (nI_pos' (show n < 2 ^ 31 by omega)), rem2 (show n < 2 ^ 31 by omega)]
  by_cases hodd : ¬ n % 2 = 0
  · left
    have : ¬ nI (n % 2) = 0 := nI_ne0 (by omega) (by omega)
    simp only [if_neg this, f1, f2]
    exact ⟨-3, sc', sm', rfl, rfl, h', by decide, by decide⟩
  replace hodd := Decidable.not_not.mp hodd
  have h00 : nI (n % 2) = 0 := by rw [hodd]; exact nI_0
  simp only [if_pos h00, show (16 : Int32) = nI 16 by decide +kernel]
  by_cases h16 : ¬ n ≤ 16
  · left
    rw [if_neg (nI_ge (show 16 < n by omega) (by omega)), if_neg (nI_ge (show 16 < n by omega) (by omega)), f1, f2]
    exact ⟨-3, sc', sm', rfl, rfl, h', by decide, by decide⟩
  replace h16 := Decidable.not_not.mp h16
  rw [if_pos (nI_le h16 (by omega)), if_pos (nI_le h16 (by omega))]
  obtain ⟨m, rfl⟩ : ∃ m, n = 2 * m := ⟨n / 2, by omega⟩
  obtain ⟨v, q1, q2⟩ := e_isQueue hV hr (show m ≤ 20 by omega) (f := fun i => sm.1 3 (40 * r + i)) c
  obtain ⟨g, g1, g2, g3⟩ := m_queueLoop hV hr (show m ≤ 20 by omega) b 1
  rw [q1, g1]
  simp only [b_s, g2]
  rcases q2 with ⟨rfl, hall⟩ | ⟨rfl, hnot⟩
  · rcases g3 with ⟨g4, -⟩ | ⟨-, g5⟩
    · right
      rw [g4]
      simp only [z1, if_false]
      exact ⟨r, m, hr, by omega, rfl, trivial, trivial, a, b, c, hall⟩
    · exact absurd hall g5
  · rcases g3 with ⟨-, g5⟩ | ⟨g4, -⟩
    · exact absurd g5 hnot
    · left
      rw [g4]
      obtain ⟨s1, s2, k1, k2, k3⟩ := s_found h (x := 3) 3 (by omega) (by decide +kernel)
      simp only [if_true, k1, k2]
      exact ⟨-3, s1, s2, rfl, rfl, k3, by decide, by decide⟩
