/-! BOOKS -/
def okB (f : Nat → Int32) (k : Nat) : Prop := (∃ j, j ≤ 999 ∧ f (2 * k) = nI j) ∧ ∃ t, t < 6 ∧ f (2 * k + 1) = nI t
theorem some0 {st : St} (e : (some ((1 : Int32), st) : Option (Int32 × St)) = some (0, st)) : False := by
  have := congrArg (fun o : Option (Int32 × St) => o.map Prod.fst) e
  simp at this
theorem morn_ok (x : Int32) (sc sm : St) : ((∃ j, j ≤ 999 ∧ x = nI j) ∧ f_X5_isMorning x sc = some (1, sc) ∧ f_X6_in x 0 999 sm = some (1, sm)) ∨ ((¬ ∃ j, j ≤ 999 ∧ x = nI j) ∧ f_X5_isMorning x sc = some (0, sc) ∧ f_X6_in x 0 999 sm = some (0, sm)) := by
  rcases t_morn x sc sm with ⟨j, hj, rfl, e1, e2⟩ | ⟨e1, e2⟩
  · exact Or.inl ⟨⟨j, hj, rfl⟩, e1, e2⟩
  · refine Or.inr ⟨?_, e1, e2⟩
    rintro ⟨j, hj, rfl⟩
    rw [m_in, if_neg (nI_pos (by omega)), show (999 : Int32) = nI 999 by decide +kernel, if_neg (nI_nlt hj (by omega))] at e2
    exact some0 e2
theorem thing_ok (x : Int32) (sc sm : St) : ((∃ j, j < 6 ∧ x = nI j) ∧ f_X5_isThing x sc = some (1, sc) ∧ f_X6_isThing x sm = some (1, sm)) ∨ ((¬ ∃ j, j < 6 ∧ x = nI j) ∧ f_X5_isThing x sc = some (0, sc) ∧ f_X6_isThing x sm = some (0, sm)) := by
  rcases t_thing x sc sm with ⟨j, hj, rfl, e1, e2⟩ | ⟨e1, e2⟩
  · exact Or.inl ⟨⟨j, hj, rfl⟩, e1, e2⟩
  · refine Or.inr ⟨?_, e1, e2⟩
    rintro ⟨j, hj, rfl⟩
    unfold f_X5_isThing at e1
    rw [if_neg (nI_pos (by omega)), n6, if_neg (nI_ge hj (by omega))] at e1
    exact some0 e1
theorem e_isBook {sc : St} {r m : Nat} (hr : r < 6) (hm : m ≤ 20) {f : Nat → Int32} (hf : ∀ i, i < 2 * m → sc.1 (2 + r) i = f i) : ∃ v, f_X5_isBook (2 + r) (nI (2 * m)) sc = some (v, sc) ∧ ((v = 1 ∧ ∀ k, k < m → okB f k) ∨ (v = 0 ∧ ¬ ∀ k, k < m → okB f k)) := by
  unfold f_X5_isBook
  obtain ⟨g, e, ho⟩ := iter_inv (body := fun v : Int32 × St => l_X5_isBook_2 (2 + r) (nI (2 * m)) v.1 v.2) (Out := fun g => (g = .inl (0, sc) ∧ ¬ ∀ k, k < m → okB f k) ∨ (∃ a, g = .inr (a, sc) ∧ ∀ k, k < m → okB f k))
    (fun k v => v = (nI (2 * k), sc) ∧ ∀ j, j < k → okB f j) m (by omega) (by
      rintro k v hk ⟨rfl, hall⟩
      dsimp only
      unfold l_X5_isBook_2
      rw [nI_1]
      by_cases hkm : k < m
      · have h0 := hf (2 * k) (by omega)
        have h1 := hf (2 * k + 1) (by omega)
        simp only [if_neg (nI_ge (show 2 * k + 1 < 2 * m by omega) (show 2 * m < 2 ^ 31 by omega)), gd_i _ (show 2 * k < 40 by omega) (show 40 < 2 ^ 31 by omega), gd_i _ (show 2 * k + 1 < 40 by omega) (show 40 < 2 ^ 31 by omega), nI_clamp (show 2 * k < 2 ^ 31 by omega), nI_clamp (show 2 * k + 1 < 2 ^ 31 by omega), h0]
        rcases morn_ok (f (2 * k)) sc sc with ⟨hp, e1, -⟩ | ⟨hp, e1, -⟩
        · simp only [e1, b_s, z1, if_false, h1]
          rcases thing_ok (f (2 * k + 1)) sc sc with ⟨hq, e2, -⟩ | ⟨hq, e2, -⟩
          · left
            simp only [e2, b_s, z1, if_false]
            refine ⟨hkm, _, rfl, by rw [n2, nI_add, show 2 * k + 2 = 2 * (k + 1) by omega], fun j hj => ?_⟩
            rcases Nat.lt_or_ge j k with z | z
            · exact hall j z
            · have : j = k := by omega
              subst this
              exact ⟨hp, hq⟩
          · right
            simp only [e2, b_s, if_true]
            exact ⟨_, rfl, Or.inl ⟨rfl, fun z => hq (z k hkm).2⟩⟩
        · right
          simp only [e1, b_s, if_true]
          exact ⟨_, rfl, Or.inl ⟨rfl, fun z => hp (z k hkm).1⟩⟩
      · right
        have : k = m := by omega
        subst this
        rw [if_pos (nI_le (show 2 * k ≤ 2 * k + 1 by omega) (by omega))]
        exact ⟨_, rfl, Or.inr ⟨_, rfl, hall⟩⟩) (v := (0, sc)) ⟨by rw [show nI (2 * 0) = 0 by decide +kernel], fun j hj => by omega⟩
  rw [e]
  rcases ho with ⟨rfl, hn⟩ | ⟨a, rfl, hall⟩
  · exact ⟨0, rfl, Or.inr ⟨rfl, hn⟩⟩
  · exact ⟨1, rfl, Or.inl ⟨rfl, hall⟩⟩
theorem m_bookLoop {sm : St} {r m : Nat} (hr : r < 6) (hm : m ≤ 20) (hs : sm.1 2 r = nI (2 * m)) : ∃ g : Int32 × Int32 × St, iter (fun v : Int32 × Int32 × St => l_X6_needBook_36 (nI r) v.1 v.2.1 v.2.2) fuel (1, 0, sm) = some g ∧ g.2.2 = sm ∧ ((g.1 = 1 ∧ ∀ k, k < m → okB (fun i => sm.1 3 (40 * r + i)) k) ∨ (g.1 = 0 ∧ ¬ ∀ k, k < m → okB (fun i => sm.1 3 (40 * r + i)) k)) := by
  refine iter_inv (body := fun v : Int32 × Int32 × St => l_X6_needBook_36 (nI r) v.1 v.2.1 v.2.2) (Out := fun g => g.2.2 = sm ∧ ((g.1 = 1 ∧ ∀ k, k < m → okB (fun i => sm.1 3 (40 * r + i)) k) ∨ (g.1 = 0 ∧ ¬ ∀ k, k < m → okB (fun i => sm.1 3 (40 * r + i)) k)))
    (fun k v => v.2 = (nI (2 * k), sm) ∧ ((v.1 = 1 ∧ ∀ j, j < k → okB (fun i => sm.1 3 (40 * r + i)) j) ∨ (v.1 = 0 ∧ ¬ ∀ j, j < m → okB (fun i => sm.1 3 (40 * r + i)) j))) m (by omega) (by
      rintro k ⟨w, v2⟩ hk ⟨e, hw⟩
      dsimp only at e hw ⊢
      subst e
      dsimp only
      unfold l_X6_needBook_36
      rw [nI_1, n2, nI_add, show 2 * k + 2 = 2 * (k + 1) by omega]
      simp only [gd_i _ hr (show 6 < 2 ^ 31 by omega), nI_clamp (show r < 2 ^ 31 by omega), hs]
      by_cases hkm : k < m
      · left
        refine ⟨hkm, ?_⟩
        simp only [if_neg (nI_ge (show 2 * k < 2 * m by omega) (show 2 * m < 2 ^ 31 by omega)), m_rowAt hr (show 2 * k < 40 by omega), b_s]
        rcases hw with ⟨rfl, hall⟩ | ⟨rfl, hnot⟩
        · simp only [z1, if_false]
          rcases morn_ok (sm.1 3 (40 * r + 2 * k)) sm sm with ⟨hp, -, e1⟩ | ⟨hp, -, e1⟩
          · simp only [e1, b_s, z1, if_false, m_rowAt hr (show 2 * k + 1 < 40 by omega)]
            rcases thing_ok (sm.1 3 (40 * r + (2 * k + 1))) sm sm with ⟨hq, -, e2⟩ | ⟨hq, -, e2⟩
            · simp only [e2, b_s, z1, if_false]
              refine ⟨_, rfl, rfl, Or.inl ⟨rfl, fun j hj => ?_⟩⟩
              rcases Nat.lt_or_ge j k with z | z
              · exact hall j z
              · have : j = k := by omega
                subst this
                exact ⟨hp, hq⟩
            · simp only [e2, b_s, if_true]
              exact ⟨_, rfl, rfl, Or.inr ⟨rfl, fun z => hq (z k hkm).2⟩⟩
          · simp only [e1, b_s, if_true]
            exact ⟨_, rfl, rfl, Or.inr ⟨rfl, fun z => hp (z k hkm).1⟩⟩
        · simp only [if_true]
          exact ⟨_, rfl, rfl, Or.inr ⟨rfl, hnot⟩⟩
      · right
        have : k = m := by omega
        subst this
        rw [if_pos (nI_le (Nat.le_refl (2 * k)) (by omega))]
        exact ⟨_, rfl, rfl, hw⟩) (v := (1, 0, sm)) ⟨by rw [show nI (2 * 0) = 0 by decide +kernel], Or.inl ⟨rfl, fun j hj => by omega⟩⟩
theorem t_book {sc sm : St} (h : RR sc sm) (x : Int32) : (f_X5_bookRefusal x sc = some (-1, sc) ∧ f_X5_isRow x sc = some (0, sc) ∧ f_X6_isRow x sm = some (0, sm)) ∨ ∃ r, r < 6 ∧ x = nI r ∧ f_X5_isRow x sc = some (1, sc) ∧ f_X6_isRow x sm = some (1, sm) ∧
    ((∃ v sc' sm', f_X5_bookRefusal x sc = some (v, sc') ∧ f_X6_needBook x sm = some (v, sm') ∧ RR sc' sm' ∧ ¬ v = 0 ∧ ¬ 0 ≤ v) ∨ ∃ m, m ≤ 20 ∧ f_X5_bookRefusal x sc = some (0, sc) ∧ f_X6_needBook x sm = some (0, sm) ∧ sc.1 8 r = nI (2 * m) ∧ sm.1 2 r = nI (2 * m) ∧ ∀ i, i < 2 * m → sc.1 (2 + r) i = sm.1 3 (40 * r + i)) := by
  rcases t_row h x with ⟨e1, e2⟩ | ⟨r, hr, rfl, e1, e2, hA⟩
  · left
    refine ⟨?_, e1, e2⟩
    unfold f_X5_bookRefusal
    rw [e_rr0 e1]
    rfl
  right
  refine ⟨r, hr, rfl, e1, e2, ?_⟩
  unfold f_X5_bookRefusal f_X6_needBook
  simp only [gd_i _ hr (show 6 < 2 ^ 31 by omega), nI_clamp (show r < 2 ^ 31 by omega), gd_t _ nz2, b_eta]
  rcases hA with ⟨a, b⟩ | ⟨n, hn, a, b, c⟩
  · left
    obtain ⟨sc', sm', f1, f2, h'⟩ := s_found h (x := 1) 1 (by omega) (by decide +kernel)
    rw [e_rr1 hr e1 a, f1]
    simp only [b, zge1, if_false, b_s, zm3, f2]
    exact ⟨-3, sc', sm', rfl, rfl, h', by decide, by decide⟩
  obtain ⟨sc', sm', f1, f2, h'⟩ := s_found h (x := 5) 5 (by omega) (by decide +kernel)
  rw [e_rr2 hr (by omega) e1 a]
  simp only [b_s, if_true, a, b, if_y (nI_pos' (show n < 2 ^ 31 by omega)), rem2 (show n < 2 ^ 31 by omega)]
  by_cases hodd : ¬ n % 2 = 0
  · left
    have : ¬ nI (n % 2) = 0 := nI_ne0 (by omega) (by omega)
    simp only [if_neg this, f1, f2]
    exact ⟨-3, sc', sm', rfl, rfl, h', by decide, by decide⟩
  replace hodd := Decidable.not_not.mp hodd
  have h00 : nI (n % 2) = 0 := by rw [hodd]; exact nI_0
  simp only [if_pos h00]
  obtain ⟨m, rfl⟩ : ∃ m, n = 2 * m := ⟨n / 2, by omega⟩
  obtain ⟨v, q1, q2⟩ := e_isBook hr (show m ≤ 20 by omega) (f := fun i => sm.1 3 (40 * r + i)) c
  obtain ⟨g, g1, g2, g3⟩ := m_bookLoop hr (show m ≤ 20 by omega) b
  rw [q1, g1]
  simp only [b_s, g2]
  rcases q2 with ⟨rfl, hall⟩ | ⟨rfl, hnot⟩
  · rcases g3 with ⟨g4, -⟩ | ⟨-, g5⟩
    · right
      rw [g4]
      simp only [z1, if_false]
      exact ⟨m, by omega, trivial, trivial, rfl, rfl, c⟩
    · exact absurd hall g5
  · rcases g3 with ⟨-, g5⟩ | ⟨g4, -⟩
    · exact absurd g5 hnot
    · left
      rw [g4]
      obtain ⟨s1, s2, k1, k2, k3⟩ := s_found h (x := 3) 3 (by omega) (by decide +kernel)
      simp only [if_true, k1, k2]
      exact ⟨-3, s1, s2, rfl, rfl, k3, by decide, by decide⟩
/-! sales that are lies -/
def lieF (f : Nat → Int32) (kd us ot : Int32) : Nat → Int32 := fun k => if wanF kd us ot (f (2 * k)) = f (2 * k + 1) then 0 else 1
theorem e_lie {sc : St} {r m : Nat} (hr : r < 6) (hm : m ≤ 20) {f : Nat → Int32} (hf : ∀ i, i < 2 * m → sc.1 (2 + r) i = f i) (kd us ot : Int32) : f_X5_unlikeSales (2 + r) (nI (2 * m)) kd us ot sc = some (smF (lieF f kd us ot) m, sc) := by
  unfold f_X5_unlikeSales
  have l := iter_fold (body := fun v : Int32 × Int32 × St => l_X5_unlikeSales_6 (2 + r) (nI (2 * m)) kd us ot v.1 v.2.1 v.2.2) (fun k => (smF (lieF f kd us ot) k, nI (2 * k), sc)) m (smF (lieF f kd us ot) m, nI (2 * m), sc) (by omega) (fun k hk => by
    have h0 := hf (2 * k) (by omega)
    have h1 := hf (2 * k + 1) (by omega)
    dsimp only
    unfold l_X5_unlikeSales_6
    rw [nI_1, n2, nI_add, show 2 * k + 2 = 2 * (k + 1) by omega]
    simp only [if_neg (nI_ge (show 2 * k + 1 < 2 * m by omega) (show 2 * m < 2 ^ 31 by omega)), gd_i _ (show 2 * k < 40 by omega) (show 40 < 2 ^ 31 by omega), gd_i _ (show 2 * k + 1 < 40 by omega) (show 40 < 2 ^ 31 by omega), nI_clamp (show 2 * k < 2 ^ 31 by omega), nI_clamp (show 2 * k + 1 < 2 ^ 31 by omega), h0, h1, e_oth, b_s]
    by_cases q : wanF kd us ot (f (2 * k)) = f (2 * k + 1)
    · have e : smF (lieF f kd us ot) (k + 1) = smF (lieF f kd us ot) k := smF_z (by unfold lieF; rw [if_pos q])
      rw [e]
      unfold wanF at q
      by_cases q0 : othF kd (f (2 * k)) = 0
      · rw [if_pos q0] at q ⊢; rw [if_pos q]
      · rw [if_neg q0] at q ⊢; rw [if_pos q]
    · have e : smF (lieF f kd us ot) k + 1 = smF (lieF f kd us ot) (k + 1) := sm_1 (by unfold lieF; rw [if_neg q])
      rw [← e]
      unfold wanF at q
      by_cases q0 : othF kd (f (2 * k)) = 0
      · rw [if_pos q0] at q ⊢; rw [if_neg q]
      · rw [if_neg q0] at q ⊢; rw [if_neg q]) (by
    dsimp only
    unfold l_X5_unlikeSales_6
    rw [nI_1, if_pos (nI_le (show 2 * m ≤ 2 * m + 1 by omega) (by omega))])
  have l' : iter (fun v : Int32 × Int32 × St => l_X5_unlikeSales_6 (2 + r) (nI (2 * m)) kd us ot v.1 v.2.1 v.2.2) fuel (0, 0, sc) = _ := l
  rw [l']
  rfl
theorem m_lie {sm : St} {r m : Nat} (hr : r < 6) (hm : m ≤ 20) (hs : sm.1 2 r = nI (2 * m)) (kd us ot : Int32) : f_X6_liesOf (nI r) kd us ot sm = some (smF (lieF (fun i => sm.1 3 (40 * r + i)) kd us ot) m, sm) := by
  unfold f_X6_liesOf
  have l := iter_fold (body := fun v : Int32 × Int32 × St => l_X6_liesOf_6 (nI r) kd us ot v.1 v.2.1 v.2.2) (fun k => (smF (lieF (fun i => sm.1 3 (40 * r + i)) kd us ot) k, nI (2 * k), sm)) m (smF (lieF (fun i => sm.1 3 (40 * r + i)) kd us ot) m, nI (2 * m), sm) (by omega) (fun k hk => by
    dsimp only
    unfold l_X6_liesOf_6
    rw [nI_1, n2, nI_add, show 2 * k + 2 = 2 * (k + 1) by omega]
    simp only [gd_i _ hr (show 6 < 2 ^ 31 by omega), nI_clamp (show r < 2 ^ 31 by omega), hs, if_neg (nI_ge (show 2 * k < 2 * m by omega) (show 2 * m < 2 ^ 31 by omega)), m_rowAt hr (show 2 * k < 40 by omega), m_rowAt hr (show 2 * k + 1 < 40 by omega), b_s, e_othM, lw_e, add0]
    by_cases q : wanF kd us ot (sm.1 3 (40 * r + 2 * k)) = sm.1 3 (40 * r + (2 * k + 1))
    · have e : smF (lieF (fun i => sm.1 3 (40 * r + i)) kd us ot) (k + 1) = smF (lieF (fun i => sm.1 3 (40 * r + i)) kd us ot) k := smF_z (by unfold lieF; rw [if_pos q])
      rw [e]
      unfold wanF at q
      by_cases q0 : othF kd (sm.1 3 (40 * r + 2 * k)) = 0
      · rw [if_pos q0] at q ⊢; rw [if_pos q]
      · rw [if_neg q0] at q ⊢; rw [if_pos q]
    · have e : smF (lieF (fun i => sm.1 3 (40 * r + i)) kd us ot) k + 1 = smF (lieF (fun i => sm.1 3 (40 * r + i)) kd us ot) (k + 1) := sm_1 (by unfold lieF; rw [if_neg q])
      rw [← e]
      unfold wanF at q
      by_cases q0 : othF kd (sm.1 3 (40 * r + 2 * k)) = 0
      · rw [if_pos q0] at q ⊢; rw [if_neg q]
      · rw [if_neg q0] at q ⊢; rw [if_neg q]) (by
    dsimp only
    unfold l_X6_liesOf_6
    simp only [gd_i _ hr (show 6 < 2 ^ 31 by omega), nI_clamp (show r < 2 ^ 31 by omega), hs, if_y (nI_le (Nat.le_refl (2 * m)) (show 2 * m < 2 ^ 31 by omega))])
  have l' : iter (fun v : Int32 × Int32 × St => l_X6_liesOf_6 (nI r) kd us ot v.1 v.2.1 v.2.2) fuel (0, 0, sm) = _ := l
  rw [l']
  rfl
/-- the lies of a book, if it is that of regular p -/
def lieP (sm : St) (r m p : Nat) : Int32 := smF (lieF (fun i => sm.1 3 (40 * r + i)) (sm.1 7 p) (sm.1 10 p) (sm.1 11 p)) m
theorem e_lieP {N : Nat} {sc sm : St} (hV : VV N sc sm) {r m p : Nat} (hr : r < 6) (hm : m ≤ 20) (a : sc.1 8 r = nI (2 * m)) (hf : ∀ i, i < 2 * m → sc.1 (2 + r) i = sm.1 3 (40 * r + i)) (hp : p < N) : f_X5_liesOf (nI p) (nI r) sc = some (lieP sm r m p, sc) := by
  have hN := hV.1
  obtain ⟨v0, v1, v2, v3, v4, v5, v6, v7⟩ := hV.2.2.2.2.2 p hp
  unfold f_X5_liesOf
  simp only [gd_i _ (show p < 6 by omega) (show 6 < 2 ^ 31 by omega), gd_i _ hr (show 6 < 2 ^ 31 by omega), nI_clamp (show p < 2 ^ 31 by omega), nI_clamp (show r < 2 ^ 31 by omega), a, v0, v3, v4, e_lie hr hm (f := fun i => sm.1 3 (40 * r + i)) hf, b_s]
  rfl
theorem m_lieP {sm : St} {r m p : Nat} (hr : r < 6) (hm : m ≤ 20) (hs : sm.1 2 r = nI (2 * m)) (hp : p < 6) : f_X6_liesBy (nI r) (nI p) sm = some (lieP sm r m p, sm) := by
  unfold f_X6_liesBy
  simp only [gd_i _ hp (show 6 < 2 ^ 31 by omega), nI_clamp (show p < 2 ^ 31 by omega), m_lie hr hm hs, b_s]
  rfl
theorem s_fits {sc sm : St} (h : RR sc sm) (x : Int32) : Sim (f_X5_fits x sc) (f_X6_fits x sm) := by
  obtain ⟨N, hV, hB⟩ := R_V h
  have hN := hV.1
  unfold f_X5_fits f_X6_fits
  rcases t_book h x with ⟨e1, -, e2⟩ | ⟨r, hr, rfl, -, e2, ⟨v, sc', sm', e1, e3, h', n1, n2⟩ | ⟨m, hm, e1, e3, a, b, c⟩⟩
  · simp only [e1, e2, b_s, if_true, zm1, if_false]
    exact ⟨-1, sc, sm, rfl, rfl, h⟩
  · simp only [e1, e2, e3, b_s, z1, if_false, if_neg n1, if_neg n2]
    exact ⟨v, sc', sm', rfl, rfl, h'⟩
  · have h00 : (0 : Int32) ≤ 0 := by decide
    simp only [e1, e2, e3, b_s, z1, if_false, if_true, if_pos h00]
    have l1 := iter_fold (body := fun v : Int32 × Int32 × St => l_X5_fits_17 (nI r) 0 v.1 v.2.1 v.2.2) (fun k => (nI (sN (fun p => decide (lieP sm r m p = 0)) k), nI k, sc)) N (nI (sN (fun p => decide (lieP sm r m p = 0)) N), nI N, sc) (by omega) (fun k hk => by
      dsimp only
      unfold l_X5_fits_17
      simp only [hV.2.1, if_neg (nI_ge hk (show N < 2 ^ 31 by omega)), e_lieP hV hr hm a c hk, b_s, lw_e, nI_1]
      by_cases q : lieP sm r m k = 0
      · rw [if_pos q, sN_or (f := fun p => decide (lieP sm r m p = 0)) (by omega) (decide_eq_true q)]
      · rw [if_neg q, sN_no (f := fun p => decide (lieP sm r m p = 0)) (by simpa using q)]) (by
      dsimp only
      unfold l_X5_fits_17
      simp only [hV.2.1, if_y (nI_le (Nat.le_refl N) (show N < 2 ^ 31 by omega))])
    have l1' : iter (fun v : Int32 × Int32 × St => l_X5_fits_17 (nI r) 0 v.1 v.2.1 v.2.2) fuel (0, 0, sc) = _ := l1
    have l2 := iter_fold (body := fun v : Int32 × Int32 × St => l_X6_fits_26 (nI r) 0 v.1 v.2.1 v.2.2) (fun k => (nI (sN (fun p => decide (lieP sm r m p = 0)) k), nI k, sm)) N (nI (sN (fun p => decide (lieP sm r m p = 0)) N), nI N, sm) (by omega) (fun k hk => by
      dsimp only
      unfold l_X6_fits_26
      simp only [hV.2.2.1, if_neg (nI_ge hk (show N < 2 ^ 31 by omega)), m_lieP hr hm b (show k < 6 by omega), b_s, lw_e, nI_1, or0]
      by_cases q : lieP sm r m k = 0
      · rw [if_pos q, sN_or (f := fun p => decide (lieP sm r m p = 0)) (by omega) (decide_eq_true q)]
      · rw [if_neg q, sN_no (f := fun p => decide (lieP sm r m p = 0)) (by simpa using q)]) (by
      dsimp only
      unfold l_X6_fits_26
      simp only [hV.2.2.1, if_y (nI_le (Nat.le_refl N) (show N < 2 ^ 31 by omega))])
    have l2' : iter (fun v : Int32 × Int32 × St => l_X6_fits_26 (nI r) 0 v.1 v.2.1 v.2.2) fuel (0, 0, sm) = _ := l2
    rw [l1', l2']
    exact ⟨_, sc, sm, rfl, rfl, h⟩
theorem s_kinds {sc sm : St} (h : RR sc sm) (x y z : Int32) : Sim (f_X5_kinds x y z sc) (f_X6_kinds x y z sm) := by
  unfold f_X5_kinds f_X6_kinds
  have hbad : ∀ (u w : Int32), (f_X6_isThing y sm = some (u, sm)) → (f_X6_isThing z sm = some (w, sm)) → u = 0 ∨ w = 0 → ∀ i, f_X6_isRow x sm = some (i, sm) → ((f_X6_isRow x sm).bind (fun q1 => (if q1.1 = 0 then (some ((-1 : Int32), q1.2)) else ((f_X6_isThing y q1.2).bind (fun q3 => (if q3.1 = 0 then (some ((-1 : Int32), q3.2)) else ((f_X6_isThing z q3.2).bind (fun q5 => (if q5.1 = 0 then (some ((-1 : Int32), q5.2)) else ((f_X6_needBook x q5.2).bind (fun q7 => (if 0 ≤ q7.1 then ((iter (fun v : Int32 × Int32 × St => l_X6_kinds_44 x y z q7.1 v.1 v.2.1 v.2.2) fuel ((0 : Int32), (0 : Int32), q7.2)).bind (fun q14 => (some (q14.1, q14.2.2)))) else (some (q7.1, q7.2)))))))))))))) = some (-1, sm) := by
    intro u w h1 h2 h3 i h4
    simp only [h4, b_s, h1, h2]
    by_cases hi : i = 0
    · rw [if_pos hi]
    · rw [if_neg hi]
      by_cases hu : u = 0
      · rw [if_pos hu]
      · rw [if_neg hu]
        rcases h3 with h3 | h3
        · exact absurd h3 hu
        · rw [if_pos h3]
  have hrow : ∃ i, f_X6_isRow x sm = some (i, sm) := by
    rcases t_isRow x sc sm with ⟨r, hr, rfl, e1, e2⟩ | ⟨e1, e2⟩
    · exact ⟨1, e2⟩
    · exact ⟨0, e2⟩
  obtain ⟨i, hi⟩ := hrow
  rcases thing_ok y sc sm with ⟨-, d1, d2⟩ | ⟨-, d1, d2⟩
  · rcases thing_ok z sc sm with ⟨-, g1, g2⟩ | ⟨-, g1, g2⟩
    · rcases t_book h x with ⟨e1, -, e2⟩ | ⟨r, hr, rfl, -, e2, ⟨v, sc', sm', e1, e3, h', n1, n2⟩ | ⟨m, hm, e1, e3, a, b, c⟩⟩
      · simp only [d1, g1, e1, e2, b_s, if_true, z1, zm1, if_false]
        exact ⟨-1, sc, sm, rfl, rfl, h⟩
      · simp only [d1, d2, g1, g2, e1, e2, e3, b_s, z1, if_false, if_neg n1, if_neg n2]
        exact ⟨v, sc', sm', rfl, rfl, h'⟩
      · have h00 : (0 : Int32) ≤ 0 := by decide
        simp only [d1, d2, g1, g2, e1, e2, e3, b_s, z1, if_false, if_true, if_pos h00]
        have l1 := iter_fold (body := fun v : Int32 × Int32 × St => l_X5_kinds_37 (nI r) y z 0 v.1 v.2.1 v.2.2) (fun k => (nI (sN (fun p => decide (smF (lieF (fun i => sm.1 3 (40 * r + i)) (nI p) y z) m = 0)) k), nI k, sc)) 6 (nI (sN (fun p => decide (smF (lieF (fun i => sm.1 3 (40 * r + i)) (nI p) y z) m = 0)) 6), nI 6, sc) (by omega) (fun k hk => by
          dsimp only
          unfold l_X5_kinds_37
          simp only [n6, if_neg (nI_ge hk (show 6 < 2 ^ 31 by omega)), gd_i _ hr (show 6 < 2 ^ 31 by omega), nI_clamp (show r < 2 ^ 31 by omega), a, e_lie hr hm (f := fun i => sm.1 3 (40 * r + i)) c, b_s, lw_e, nI_1]
          by_cases q : smF (lieF (fun i => sm.1 3 (40 * r + i)) (nI k) y z) m = 0
          · rw [if_pos q, sN_or (f := fun p => decide (smF (lieF (fun i => sm.1 3 (40 * r + i)) (nI p) y z) m = 0)) (by omega) (decide_eq_true q)]
          · rw [if_neg q, sN_no (f := fun p => decide (smF (lieF (fun i => sm.1 3 (40 * r + i)) (nI p) y z) m = 0)) (by simpa using q)]) (by
          dsimp only
          unfold l_X5_kinds_37
          simp only [n6, if_y (nI_le (Nat.le_refl 6) (show 6 < 2 ^ 31 by omega))])
        have l1' : iter (fun v : Int32 × Int32 × St => l_X5_kinds_37 (nI r) y z 0 v.1 v.2.1 v.2.2) fuel (0, 0, sc) = _ := l1
        have l2 := iter_fold (body := fun v : Int32 × Int32 × St => l_X6_kinds_44 (nI r) y z 0 v.1 v.2.1 v.2.2) (fun k => (nI (sN (fun p => decide (smF (lieF (fun i => sm.1 3 (40 * r + i)) (nI p) y z) m = 0)) k), nI k, sm)) 6 (nI (sN (fun p => decide (smF (lieF (fun i => sm.1 3 (40 * r + i)) (nI p) y z) m = 0)) 6), nI 6, sm) (by omega) (fun k hk => by
          dsimp only
          unfold l_X6_kinds_44
          simp only [n6, if_neg (nI_ge hk (show 6 < 2 ^ 31 by omega)), m_lie hr hm b, b_s, lw_e, nI_1, or0]
          by_cases q : smF (lieF (fun i => sm.1 3 (40 * r + i)) (nI k) y z) m = 0
          · rw [if_pos q, sN_or (f := fun p => decide (smF (lieF (fun i => sm.1 3 (40 * r + i)) (nI p) y z) m = 0)) (by omega) (decide_eq_true q)]
          · rw [if_neg q, sN_no (f := fun p => decide (smF (lieF (fun i => sm.1 3 (40 * r + i)) (nI p) y z) m = 0)) (by simpa using q)]) (by
          dsimp only
          unfold l_X6_kinds_44
          simp only [n6, if_y (nI_le (Nat.le_refl 6) (show 6 < 2 ^ 31 by omega))])
        have l2' : iter (fun v : Int32 × Int32 × St => l_X6_kinds_44 (nI r) y z 0 v.1 v.2.1 v.2.2) fuel (0, 0, sm) = _ := l2
        rw [l1', l2']
        exact ⟨_, sc, sm, rfl, rfl, h⟩
    · refine ⟨-1, sc, sm, ?_, hbad _ _ d2 g2 (Or.inr rfl) i hi, h⟩
      simp only [d1, g1, b_s, z1, if_false, if_true]
  · rcases thing_ok z sc sm with ⟨-, g1, g2⟩ | ⟨-, g1, g2⟩
    · refine ⟨-1, sc, sm, ?_, hbad _ _ d2 g2 (Or.inl rfl) i hi, h⟩
      simp only [d1, b_s, if_true]
    · refine ⟨-1, sc, sm, ?_, hbad _ _ d2 g2 (Or.inl rfl) i hi, h⟩
      simp only [d1, b_s, if_true]
def lbF (L : Nat → Int32) : Nat → Nat
  | 0 => 0
  | k + 1 => if L (lbF L k) ≤ L k then lbF L k else k
theorem lbF_lt (L : Nat → Int32) {N : Nat} (hN : 0 < N) : ∀ k, k ≤ N → lbF L k < N
  | 0, _ => hN
  | k + 1, hk => by
    show (if L (lbF L k) ≤ L k then lbF L k else k) < N
    split
    · exact lbF_lt L hN k (by omega)
    · omega
theorem lbF_1 (L : Nat → Int32) : lbF L 1 = 0 := by
  show (if L 0 ≤ L 0 then 0 else 0) = 0
  split <;> rfl
theorem s_lies {sc sm : St} (h : RR sc sm) (x : Int32) : Sim (f_X5_lies x sc) (f_X6_lies x sm) := by
  obtain ⟨N, hV, hB⟩ := R_V h
  have hN := hV.1
  unfold f_X5_lies f_X6_lies
  rcases t_book h x with ⟨-, e1, e2⟩ | ⟨r, hr, rfl, e1, e2, hA⟩
  · simp only [e1, e2, b_s, if_true]
    exact ⟨-1, sc, sm, rfl, rfl, h⟩
  simp only [e1, e2, b_s, z1, if_false, hV.2.1, hV.2.2.1]
  by_cases hz : nI N = 0
  · simp only [if_pos hz]
    exact ⟨-4, sc, sm, rfl, rfl, h⟩
  simp only [if_neg hz]
  have hN0 : 0 < N := Nat.pos_of_ne_zero (fun q => hz (by rw [q]; exact nI_0))
  rcases hA with ⟨v, sc', sm', d1, d2, h', n1, n2⟩ | ⟨m, hm, d1, d2, a, b, c⟩
  · simp only [d1, d2, b_s, if_neg n1, if_neg n2]
    exact ⟨v, sc', sm', rfl, rfl, h'⟩
  have h00 : (0 : Int32) ≤ 0 := by decide
  simp only [d1, d2, b_s, if_true, if_pos h00]
  have l1 := iter_fold (body := fun v : Int32 × Int32 × St => l_X5_lies_39 (nI r) 0 v.1 v.2.1 v.2.2) (fun k => (nI (lbF (lieP sm r m) (k + 1)), nI (k + 1), sc)) (N - 1) (nI (lbF (lieP sm r m) N), nI N, sc) (by omega) (fun k hk => by
    have hb := lbF_lt (lieP sm r m) hN0 (k + 1) (by omega)
    dsimp only
    unfold l_X5_lies_39
    simp only [hV.2.1, if_neg (nI_ge (show k + 1 < N by omega) (show N < 2 ^ 31 by omega)), e_lieP hV hr hm a c (show k + 1 < N by omega), e_lieP hV hr hm a c hb, b_s, nI_1]
    show _ = some (Sum.inl (nI (if lieP sm r m (lbF (lieP sm r m) (k + 1)) ≤ lieP sm r m (k + 1) then lbF (lieP sm r m) (k + 1) else k + 1), nI (k + 1 + 1), sc))
    split <;> rfl) (by
    dsimp only
    unfold l_X5_lies_39
    rw [show N - 1 + 1 = N by omega]
    simp only [hV.2.1, if_y (nI_le (Nat.le_refl N) (show N < 2 ^ 31 by omega))])
  have l1' : iter (fun v : Int32 × Int32 × St => l_X5_lies_39 (nI r) 0 v.1 v.2.1 v.2.2) fuel (nI (lbF (lieP sm r m) 1), nI 1, sc) = _ := l1
  rw [lbF_1, show nI 0 = 0 by decide +kernel, show nI 1 = 1 by decide +kernel] at l1'
  have l2 := iter_fold (body := fun v : Int32 × Int32 × St => l_X6_lies_36 (nI r) 0 v.1 v.2.1 v.2.2) (fun k => (nI (lbF (lieP sm r m) k), nI k, sm)) N (nI (lbF (lieP sm r m) N), nI N, sm) (by omega) (fun k hk => by
    have hb := lbF_lt (lieP sm r m) hN0 k (by omega)
    dsimp only
    unfold l_X6_lies_36
    simp only [hV.2.2.1, if_neg (nI_ge hk (show N < 2 ^ 31 by omega)), m_lieP hr hm b (show k < 6 by omega), m_lieP hr hm b (show lbF (lieP sm r m) k < 6 by omega), b_s, nI_1]
    show _ = some (Sum.inl (nI (if lieP sm r m (lbF (lieP sm r m) k) ≤ lieP sm r m k then lbF (lieP sm r m) k else k), nI (k + 1), sm))
    split <;> rfl) (by
    dsimp only
    unfold l_X6_lies_36
    simp only [hV.2.2.1, if_y (nI_le (Nat.le_refl N) (show N < 2 ^ 31 by omega))])
  have l2' : iter (fun v : Int32 × Int32 × St => l_X6_lies_36 (nI r) 0 v.1 v.2.1 v.2.2) fuel (0, 0, sm) = _ := l2
  have hb := lbF_lt (lieP sm r m) hN0 N (Nat.le_refl N)
  have h2 := s_ask h (nI (lbF (lieP sm r m) N))
  obtain ⟨N2, hV2, -⟩ := R_V h2
  have hNN : N2 = N := by
    have q := hV2.2.1
    rw [sA_n (by omega), hV.2.1] at q
    have := hV2.1
    exact ((nI_eq (by omega) (by omega)).mp q).symm
  subst hNN
  have e9 := e_lieP hV2 hr hm (p := lbF (lieP sm r m) N2) (by rw [sA_n (by omega)]; exact a) (fun i hi => by rw [sA_n (by omega), sA_n (by omega)]; exact c i hi) hb
  have e8 : lieP (sA sm 0 (upd (sm.1 0) 2 (nI (lbF (lieP sm r m) N2)))) r m (lbF (lieP sm r m) N2) = lieP sm r m (lbF (lieP sm r m) N2) := by
    unfold lieP
    rw [sA_n (show (3 : Nat) ≠ 0 by omega), sA_n (show (7 : Nat) ≠ 0 by omega), sA_n (show (10 : Nat) ≠ 0 by omega), sA_n (show (11 : Nat) ≠ 0 by omega)]
  rw [e8] at e9
  simp only [l1', l2', b_s, ls_e, m_lieP hr hm b (show lbF (lieP sm r m) N2 < 6 by omega), e9, b_eta]
  unfold f_X6_tells
  exact ⟨_, _, _, rfl, rfl, h2⟩
