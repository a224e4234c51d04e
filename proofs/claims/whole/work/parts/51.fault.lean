/-! THE SMALL LANGUAGE: what may stand where -/
def kF (x : Int32) : Int32 := if x = 99 then 2 else if x = 102 then 5 else if x = 104 then 3 else if x = 114 then 0 else if x = 115 then 1 else if x = 121 then 4 else -9
theorem m_kind (x : Int32) (st : St) : f_X6_kindOf x st = some (kF x, st) := by
  unfold f_X6_kindOf kF
  repeat' split
  all_goals rfl
theorem e_kind (x : Int32) (st : St) : f_X5_kindOf x st = some (kF x, st) := by
  unfold f_X5_kindOf
  obtain ⟨g, e, h⟩ := iter_inv (body := fun v : Int32 × St => l_X5_kindOf_2 x v.1 v.2) (Out := fun g => (∃ j, j < 6 ∧ tb0 j = x ∧ g = Sum.inl (nI j, st)) ∨ (∃ y, g = Sum.inr (y, st) ∧ ∀ j, j < 6 → ¬ tb0 j = x)) (fun k v => v = (nI k, st) ∧ ∀ j, j < k → ¬ tb0 j = x) 6 (by omega) (fun k v hk hS => by
    obtain ⟨rfl, h⟩ := hS
    dsimp only
    unfold l_X5_kindOf_2
    rw [n6]
    by_cases hk6 : k < 6
    · rw [if_neg (nI_ge hk6 (by omega)), gd_i _ hk6 (by omega), nI_clamp (show k < 2 ^ 31 by omega)]
      by_cases e : tb0 k = x
      · rw [if_pos e]
        exact Or.inr ⟨_, rfl, Or.inl ⟨k, hk6, e, rfl⟩⟩
      · rw [if_neg e, nI_1]
        refine Or.inl ⟨hk6, _, rfl, rfl, fun j hj => ?_⟩
        by_cases z : j = k
        · subst z; exact e
        · exact h j (by omega)
    · have : k = 6 := by omega
      subst this
      rw [if_pos (nI_le (Nat.le_refl _) (by omega))]
      exact Or.inr ⟨_, rfl, Or.inr ⟨_, rfl, h⟩⟩) (v := (0, st)) ⟨rfl, fun j hj => by omega⟩
  rw [e, b_s]
  rcases h with ⟨j, hj, rfl, rfl⟩ | ⟨y, rfl, h⟩
  · show some (nI j, st) = some (kF (tb0 j), st)
    have : nI j = kF (tb0 j) := by
      rcases (show j = 0 ∨ j = 1 ∨ j = 2 ∨ j = 3 ∨ j = 4 ∨ j = 5 by omega) with rfl | rfl | rfl | rfl | rfl | rfl <;> decide +kernel
    rw [this]
  · show some (-9, st) = some (kF x, st)
    have h0 := h 0 (by omega); have h1 := h 1 (by omega); have h2 := h 2 (by omega); have h3 := h 3 (by omega); have h4 := h 4 (by omega); have h5 := h 5 (by omega)
    unfold kF
    rw [if_neg (fun z => h2 (by rw [z]; rfl)), if_neg (fun z => h5 (by rw [z]; rfl)), if_neg (fun z => h3 (by rw [z]; rfl)), if_neg (fun z => h0 (by rw [z]; rfl)), if_neg (fun z => h1 (by rw [z]; rfl)), if_neg (fun z => h4 (by rw [z]; rfl))]
def mS (c : Int32) (v : Nat) : Prop := (v = 0 ∧ ¬ kF c = -9) ∨ (¬ v = 0 ∧ ¬ c - 48 < tb1 v ∧ ¬ tb2 v < c - 48)
theorem e_may1 {c : Int32} {v : Nat} (hv : v < 6) (h : mS c v) (st : St) : f_X5_mayStand c (nI v) st = some (1, st) := by
  unfold f_X5_mayStand
  rcases h with ⟨rfl, h⟩ | ⟨h0, h1, h2⟩
  · rw [if_pos (by decide), e_kind, b_s, if_neg h]
  · rw [if_neg (nI_ne0 (by omega) (by omega)), lw_e, gd_i _ hv (by omega), gd_i _ hv (by omega), nI_clamp (show v < 2 ^ 31 by omega), if_neg h1, if_neg h2]
theorem e_may0 {c : Int32} {v : Nat} (hv : v < 6) (h : ¬ mS c v) (st : St) : f_X5_mayStand c (nI v) st = some (0, st) := by
  unfold f_X5_mayStand
  by_cases h0 : v = 0
  · subst h0
    have hk : kF c = -9 := Decidable.not_not.mp fun z => h (Or.inl ⟨rfl, z⟩)
    rw [if_pos (by decide), e_kind, b_s, if_pos hk]
  · rw [if_neg (nI_ne0 (by omega) (by omega)), lw_e, gd_i _ hv (by omega), gd_i _ hv (by omega), nI_clamp (show v < 2 ^ 31 by omega)]
    by_cases h1 : c - 48 < tb1 v
    · rw [if_pos h1]
    · by_cases h2 : tb2 v < c - 48
      · rw [if_neg h1, if_pos h2]
      · exact absurd (Or.inr ⟨h0, h1, h2⟩) h
def okI (b : Nat → Int32) (n i u : Nat) : Prop := i + u < n ∧ mS (b (i + u)) u
theorem fst6 (P : Nat → Prop) : ∀ N, ∃ v, v ≤ N ∧ (∀ u, u < v → P u) ∧ (v < N → ¬ P v)
  | 0 => ⟨0, by omega, fun u hu => by omega, fun h => by omega⟩
  | N + 1 => by
    obtain ⟨v, h1, h2, h3⟩ := fst6 P N
    by_cases e : v = N
    · subst e
      by_cases hp : P v
      · exact ⟨v + 1, by omega, fun u hu => by
          by_cases z : u = v
          · subst z; exact hp
          · exact h2 u (by omega), fun h => by omega⟩
      · exact ⟨v, by omega, h2, fun _ => hp⟩
    · exact ⟨v, by omega, h2, fun _ => h3 (by omega)⟩
theorem e_item {c0 n i v : Nat} {st : St} {b : Nat → Int32} (hb : ∀ j, j < n → st.1 c0 j = b j) (hn : n ≤ 60) (hi : i ≤ 60) (hv : v ≤ 6) (h1 : ∀ u, u < v → okI b n i u) (h2 : v < 6 → ¬ okI b n i v) : f_X5_itemFault c0 (nI n) (nI i) st = some (if v = 6 then -9 else nI (i + v), st) := by
  unfold f_X5_itemFault
  have l := iter_fold (body := fun v : Int32 × St => l_X5_itemFault_2 c0 (nI n) (nI i) v.1 v.2) (fun k => (nI k, st)) v (if v = 6 then Sum.inr (nI 6, st) else Sum.inl (nI (i + v), st)) (by omega) (fun k hk => by
    obtain ⟨a, c⟩ := h1 k hk
    dsimp only
    unfold l_X5_itemFault_2
    rw [n6, if_neg (nI_ge (show k < 6 by omega) (by omega)), lw_e, nI_add, if_neg (nI_ge a (by omega)), gd_i _ (show i + k < 60 by omega) (by omega), nI_clamp (show i + k < 2 ^ 31 by omega), hb _ a, e_may1 (by omega) c, b_s, if_neg (show ¬ (1 : Int32) = 0 by decide), nI_1]) (by
    dsimp only
    unfold l_X5_itemFault_2
    by_cases h6 : v = 6
    · rw [n6, h6, if_pos (nI_le (Nat.le_refl _) (by omega)), if_pos rfl]
    · rw [n6, if_neg (nI_ge (show v < 6 by omega) (by omega)), if_neg h6, lw_e, nI_add]
      by_cases a : n ≤ i + v
      · rw [if_pos (nI_le a (by omega))]
      · have a' : i + v < n := by omega
        rw [if_neg (nI_ge a' (by omega)), gd_i _ (show i + v < 60 by omega) (by omega), nI_clamp (show i + v < 2 ^ 31 by omega), hb _ a', e_may0 (by omega) (fun z => h2 (by omega) ⟨a', z⟩), b_s, if_pos rfl])
  have l' : iter (fun v : Int32 × St => l_X5_itemFault_2 c0 (nI n) (nI i) v.1 v.2) fuel (0, st) = _ := l
  rw [l', b_s]
  by_cases h6 : v = 6
  · rw [if_pos h6, if_pos h6]; rfl
  · rw [if_neg h6, if_neg h6]; rfl
theorem m_byte {r n j : Nat} {st : St} {b : Nat → Int32} (hr : r < 4) (hs : st.1 5 r = nI n) (hb : ∀ j, j < n → st.1 6 (60 * r + j) = b j) (hn : n ≤ 60) (hj : j ≤ 100) : f_X6_byteAt (nI r) (nI j) st = some (if n ≤ j then 0 else b j, st) := by
  unfold f_X6_byteAt
  rw [gd_i _ hr (by omega), nI_clamp (show r < 2 ^ 31 by omega), hs, ix60]
  by_cases h : n ≤ j
  · rw [if_pos (nI_le h (by omega)), if_pos h]
  · rw [if_neg (nI_ge (show j < n by omega) (by omega)), if_neg h, gd_i _ (show 60 * r + j < 240 by omega) (by omega), nI_clamp (show 60 * r + j < 2 ^ 31 by omega), hb j (by omega)]
theorem m_low {v : Nat} (h1 : 1 ≤ v) (h6 : v < 6) (st : St) : f_X6_lowOf (nI v) st = some (tb1 v, st) := by
  unfold f_X6_lowOf
  rcases (show v = 1 ∨ v = 2 ∨ v = 3 ∨ v = 4 ∨ v = 5 by omega) with rfl | rfl | rfl | rfl | rfl
  · rw [if_neg (by decide +kernel)]; rfl
  · rw [if_neg (by decide +kernel)]; rfl
  · rw [if_neg (by decide +kernel)]; rfl
  · rw [if_neg (by decide +kernel)]; rfl
  · rw [if_pos (by decide +kernel)]; rfl
theorem m_high {v : Nat} (h1 : 1 ≤ v) (h6 : v < 6) (st : St) : f_X6_highOf (nI v) st = some (tb2 v, st) := by
  unfold f_X6_highOf
  rcases (show v = 1 ∨ v = 2 ∨ v = 3 ∨ v = 4 ∨ v = 5 by omega) with rfl | rfl | rfl | rfl | rfl
  · rw [if_neg (by decide +kernel)]; rfl
  · rw [if_neg (by decide +kernel)]; rfl
  · rw [if_pos (by decide +kernel), if_neg (by decide +kernel)]; rfl
  · rw [if_pos (by decide +kernel), if_neg (by decide +kernel)]; rfl
  · rw [if_pos (by decide +kernel), if_pos (by decide +kernel)]; rfl
theorem tb1_p (v : Nat) : (-48 : Int32) < tb1 v := by
  unfold tb1
  split <;> decide
/-- the reference reads: only its place, its count, its scratch change -/
def PZ (sm s : St) : Prop := (∀ k, k ≠ 0 → k ≠ 13 → s.1 k = sm.1 k) ∧ (∀ q, q ≠ 17 → q ≠ 18 → s.1 0 q = sm.1 0 q) ∧ s.2 = sm.2
theorem PZ.rf (sm : St) : PZ sm sm := ⟨fun _ _ _ => rfl, fun _ _ _ => rfl, rfl⟩
theorem PZ.tr {a b c : St} (h : PZ a b) (g : PZ b c) : PZ a c := ⟨fun k x y => (g.1 k x y).trans (h.1 k x y), fun q x y => (g.2.1 q x y).trans (h.2.1 q x y), g.2.2.trans h.2.2⟩
theorem pz_0 (s : St) (q : Nat) (hq : q = 17 ∨ q = 18) (x : Int32) : PZ s (sA s 0 (upd (s.1 0) q x)) := ⟨fun k h _ => sA_n h, fun p h1 h2 => by rw [sA_k, pk_un (by omega)], rfl⟩
theorem pz_13 (s : St) (f : Nat → Int32) : PZ s (sA s 13 f) := ⟨fun k _ h => sA_n h, fun p h1 h2 => by rw [sA_n (by omega)], rfl⟩
theorem m_readsA {r n i m : Nat} {st : St} {b : Nat → Int32} (hr : r < 4) (hs : st.1 5 r = nI n) (hb : ∀ j, j < n → st.1 6 (60 * r + j) = b j) (hn : n ≤ 60) (hi : i < n) (h17 : st.1 0 17 = nI i) (h18 : st.1 0 18 = nI m) (h : ¬ okI b n i 0 ∨ m = 6) : f_X6_readsOne (nI r) st = some (0, st) := by
  unfold f_X6_readsOne
  rw [h17, m_byte hr hs hb hn (by omega), b_s, if_neg (by omega)]
  dsimp only
  rw [m_kind, b_s]
  by_cases hk : kF (b i) = -9
  · rw [if_pos hk]
  · rw [if_neg hk]
    dsimp only
    rcases h with h | h
    · exact absurd ⟨by omega, Or.inl ⟨rfl, hk⟩⟩ h
    · rw [h18, h, n6, if_pos rfl]
theorem m_readsB {r n i m v : Nat} {st : St} {b : Nat → Int32} (hr : r < 4) (hs : st.1 5 r = nI n) (hb : ∀ j, j < n → st.1 6 (60 * r + j) = b j) (hn : n ≤ 60) (hi : i < n) (h17 : st.1 0 17 = nI i) (h18 : st.1 0 18 = nI m) (hm : m < 6) (hv : v ≤ 6) (hv1 : 1 ≤ v) (h1 : ∀ u, u < v → okI b n i u) (h2 : v < 6 → ¬ okI b n i v) :
    ∃ s, f_X6_readsOne (nI r) st = some (if v = 6 then 1 else 0, s) ∧ PZ st s ∧ s.1 0 17 = nI (i + v) ∧ (v = 6 → s.1 0 18 = nI (m + 1) ∧ s.1 13 (6 * m) = kF (b i) ∧ ∀ j, 1 ≤ j → j < 6 → s.1 13 (6 * m + j) = b (i + j) - 48) ∧ ∀ q, q < 6 * m → s.1 13 q = st.1 13 q := by
  unfold f_X6_readsOne
  rw [h17, m_byte hr hs hb hn (by omega), b_s, if_neg (by omega)]
  dsimp only
  rw [m_kind, b_s]
  have hk : ¬ kF (b i) = -9 := by
    rcases (h1 0 (by omega)).2 with ⟨-, h⟩ | ⟨h, -⟩
    · exact h
    · exact absurd rfl h
  rw [if_neg hk]
  dsimp only
  rw [h18, n6, if_neg (fun z => by have := (nI_eq (by omega) (by omega)).mp z; omega), lw_e, ls_e, pk_mul, gd_i _ (show 6 * m < 36 by omega) (by omega), ls_e, nI_clamp (show 6 * m < 2 ^ 31 by omega), h17, nI_1, sA_n (show (13 : Nat) ≠ 0 by omega)]
  generalize hs1 : sA (sA st 0 (upd (st.1 0) 17 (nI (i + 1)))) 13 (upd (st.1 13) (6 * m) (kF (b i))) = s1
  have p1 : PZ st s1 := by rw [← hs1]; exact (pz_0 st 17 (Or.inl rfl) _).tr (pz_13 _ _)
  have a17 : s1.1 0 17 = nI (i + 1) := by rw [← hs1, sA_n (by omega), sA_k, pk_us]
  have a18 : s1.1 0 18 = nI m := by rw [← hs1, sA_n (by omega), sA_k, pk_un (by omega)]; exact h18
  have a13 : s1.1 13 (6 * m) = kF (b i) := by rw [← hs1, sA_k, pk_us]
  have a13' : ∀ q, q < 6 * m → s1.1 13 q = st.1 13 q := fun q hq => by rw [← hs1, sA_k, pk_un (by omega)]
  obtain ⟨g, e, s, c0, c1, c2, c3, c4, c5, c6⟩ := iter_inv (body := fun w : Int32 × St => l_X6_readsOne_58 (nI r) (kF (b i)) (nI (6 * m)) w.1 w.2) (Out := fun g => ∃ s, g = (if v = 6 then Sum.inr (nI 6, s) else Sum.inl (0, s)) ∧ PZ st s ∧ s.1 0 17 = nI (i + v) ∧ s.1 0 18 = nI m ∧ s.1 13 (6 * m) = kF (b i) ∧ (∀ j, 1 ≤ j → j < v → s.1 13 (6 * m + j) = b (i + j) - 48) ∧ ∀ q, q < 6 * m → s.1 13 q = st.1 13 q) (fun k w => ∃ s, w = (nI (k + 1), s) ∧ PZ st s ∧ s.1 0 17 = nI (i + (k + 1)) ∧ s.1 0 18 = nI m ∧ s.1 13 (6 * m) = kF (b i) ∧ (∀ j, 1 ≤ j → j < k + 1 → s.1 13 (6 * m + j) = b (i + j) - 48) ∧ ∀ q, q < 6 * m → s.1 13 q = st.1 13 q) (v - 1) (by omega) (fun k w hk hS => by
    obtain ⟨s, rfl, c1, c2, c3, c4, c5, c6⟩ := hS
    dsimp only
    unfold l_X6_readsOne_58
    have hbs : ∀ j, j < n → s.1 6 (60 * r + j) = b j := fun j hj => by rw [c1.1 6 (by omega) (by omega)]; exact hb j hj
    have hss : s.1 5 r = nI n := by rw [c1.1 5 (by omega) (by omega)]; exact hs
    rw [n6, c2]
    by_cases hkv : k < v - 1
    · obtain ⟨o1, o2⟩ := h1 (k + 1) (by omega)
      rcases o2 with ⟨z, -⟩ | ⟨-, o2, o3⟩
      · omega
      refine Or.inl ⟨hkv, ?_⟩
      rw [if_neg (nI_ge (show k + 1 < 6 by omega) (by omega)), m_byte hr hss hbs hn (by omega), b_s, if_neg (by omega), lw_e]
      dsimp only
      rw [m_low (by omega) (by omega), b_s]
      dsimp only
      rw [m_high (by omega) (by omega), b_s]
      dsimp only
      rw [m_in, b_s, if_neg o2, if_neg o3, if_neg (show ¬ (1 : Int32) = 0 by decide)]
      dsimp only
      rw [nI_add, gd_i _ (show 6 * m + (k + 1) < 36 by omega) (by omega), ls_e, ls_e, nI_clamp (show 6 * m + (k + 1) < 2 ^ 31 by omega), sA_n (show (0 : Nat) ≠ 13 by omega), c2, nI_1, nI_1]
      refine ⟨_, rfl, _, rfl, (c1.tr (pz_13 _ _)).tr (by
        have := pz_0 (sA s 13 (upd (s.1 13) (6 * m + (k + 1)) (b (i + (k + 1)) - 48))) 17 (Or.inl rfl) (nI (i + (k + 1) + 1))
        rwa [sA_n (show (0 : Nat) ≠ 13 by omega)] at this), by rw [sA_k, pk_us]; rfl, by rw [sA_k, pk_un (by omega)]; exact c3, by rw [sA_n (by omega), sA_k, pk_un (by omega)]; exact c4, fun j j1 j2 => ?_, fun q hq => by rw [sA_n (by omega), sA_k, pk_un (by omega)]; exact c6 q hq⟩
      rw [sA_n (by omega), sA_k]
      by_cases e : j = k + 1
      · subst e; rw [pk_us]
      · rw [pk_un (by omega)]; exact c5 j j1 (by omega)
    · have hkv' : k + 1 = v := by omega
      refine Or.inr ?_
      rw [hkv'] at c2 c5 ⊢
      by_cases h6 : v = 6
      · rw [h6, if_pos (nI_le (Nat.le_refl _) (by omega))]
        refine ⟨_, rfl, s, by rw [if_pos rfl], c1, by rw [← h6]; exact c2, c3, c4, fun j j1 j2 => c5 j j1 (by omega), c6⟩
      · rw [if_neg (nI_ge (show v < 6 by omega) (by omega)), m_byte hr hss hbs hn (by omega), b_s, lw_e]
        dsimp only
        rw [m_low (by omega) (by omega), b_s]
        dsimp only
        rw [m_high (by omega) (by omega), b_s]
        dsimp only
        rw [m_in, b_s]
        have hz : (if (if n ≤ i + v then 0 else b (i + v)) - 48 < tb1 v then (0 : Int32) else if tb2 v < (if n ≤ i + v then 0 else b (i + v)) - 48 then 0 else 1) = 0 := by
          by_cases a : n ≤ i + v
          · rw [if_pos a, if_pos (show (0 : Int32) - 48 < tb1 v from tb1_p v)]
          · rw [if_neg a]
            by_cases o1 : b (i + v) - 48 < tb1 v
            · rw [if_pos o1]
            · by_cases o2 : tb2 v < b (i + v) - 48
              · rw [if_neg o1, if_pos o2]
              · exact absurd ⟨by omega, Or.inr ⟨by omega, o1, o2⟩⟩ (h2 (by omega))
        rw [hz, if_pos rfl]
        exact ⟨_, rfl, s, by rw [if_neg h6], c1, c2, c3, c4, c5, c6⟩) (v := (1, s1)) ⟨s1, rfl, p1, a17, a18, a13, fun j j1 j2 => by omega, a13'⟩
  rw [e, b_s, c0]
  by_cases h6 : v = 6
  · rw [if_pos h6, if_pos h6]
    refine ⟨_, rfl, c1.tr (pz_0 _ 18 (Or.inr rfl) _), by rw [sA_k, pk_un (by omega)]; exact c2, fun _ => ⟨by rw [sA_k, pk_us, c3, nI_1], by rw [sA_n (by omega)]; exact c4, fun j j1 j2 => by rw [sA_n (by omega)]; exact c5 j j1 (by omega)⟩, fun q hq => by rw [sA_n (by omega)]; exact c6 q hq⟩
  · rw [if_neg h6, if_neg h6]
    exact ⟨s, rfl, c1, c2, fun z => absurd z h6, c6⟩
