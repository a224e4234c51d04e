/-! LEAVES: what one regular is like, by its fields -/
def othF (kd m : Int32) : Int32 := if kd = 2 then (if m < 3 then 0 else 1) else if kd = 4 then (if m - m / 2 * 2 = 1 then 1 else 0) else if kd = 5 then (if m - m / 5 * 5 = 4 then (if 3 ≤ m then 0 else 1) else (if m < 3 then 0 else 1)) else 0
theorem le2 (m : Int32) : (m ≤ 2) ↔ m < 3 := by
  rw [Int32.le_iff_toInt_le, Int32.lt_iff_toInt_lt]
  show m.toInt ≤ (2 : Int) ↔ m.toInt < (3 : Int)
  omega
theorem lt2 (m : Int32) : ((2 : Int32) < m) ↔ 3 ≤ m := by
  rw [Int32.le_iff_toInt_le, Int32.lt_iff_toInt_lt]
  show (2 : Int) < m.toInt ↔ (3 : Int) ≤ m.toInt
  omega
theorem le1 (m : Int32) : (m ≤ 1) ↔ m < 2 := by
  rw [Int32.le_iff_toInt_le, Int32.lt_iff_toInt_lt]
  show m.toInt ≤ (1 : Int) ↔ m.toInt < (2 : Int)
  omega
theorem e_oth (kd m : Int32) (st : St) : f_X5_wantsOther kd m st = some (othF kd m, st) := by
  unfold f_X5_wantsOther othF
  rw [gd_t _ (by decide +kernel : nz 2 = true), gd_t _ (by decide +kernel : nz 5 = true)]
  by_cases h2 : kd = 2
  · simp only [if_pos h2]
    split <;> rfl
  · by_cases h3 : kd = 3
    · subst h3; simp
    · by_cases h4 : kd = 4
      · subst h4
        simp only [if_neg h2, if_neg h3, if_pos]
        split <;> rfl
      · by_cases h5 : kd = 5
        · subst h5
          simp only [if_neg h2, if_neg h3, if_neg h4, if_pos]
          split <;> split <;> rfl
        · simp only [if_neg h2, if_neg h3, if_neg h4, if_neg h5]
theorem e_othM (kd m : Int32) (st : St) : f_X6_isOther kd m st = some (othF kd m, st) := by
  unfold f_X6_isOther othF
  rw [gd_t _ (by decide +kernel : nz 2 = true), gd_t _ (by decide +kernel : nz 5 = true)]
  simp only [le2, lt2]
  by_cases h2 : kd = 2
  · simp only [if_pos h2]
    split <;> rfl
  · by_cases h3 : kd = 3
    · subst h3; simp
    · by_cases h4 : kd = 4
      · subst h4
        simp only [if_neg h2, if_neg h3, if_pos]
        split <;> rfl
      · by_cases h5 : kd = 5
        · subst h5
          simp only [if_neg h2, if_neg h3, if_neg h4, if_pos]
          split <;> split <;> rfl
        · simp only [if_neg h2, if_neg h3, if_neg h4, if_neg h5]
def wanF (kd us ot m : Int32) : Int32 := if othF kd m = 0 then us else ot
def knoF (s : Int32) : Int32 := if s < 2 then 0 else 1
def askF (s : Int32) : Int32 := if s < 2 then 40 else 30
def silF (kd : Int32) : Int32 := if kd = 1 then 1 else if kd = 4 then 1 else 0
def wroF (kd s : Int32) : Int32 := if kd = 3 then (9 + askF s) + 20 else (9 + askF s) + 10
def takF (kd us ot s m th : Int32) : Int32 := if th = -9 then askF s else if th = wanF kd us ot m then 9 else if silF kd = 0 then wroF kd s else 9
def souF (kd us ot m th : Int32) : Int32 := if silF kd = 0 then 0 else if th = -9 then 0 else if th = wanF kd us ot m then 0 else 1
theorem e_wan (k : Nat) (m : Int32) (st : St) : f_X2_wantOn k m st = some (wanF (st.1 k 0) (st.1 k 3) (st.1 k 4) m, st) := by
  unfold f_X2_wantOn wanF
  simp only [e_oth, b_s]
  split <;> rfl
theorem e_kno (k : Nat) (st : St) : f_X2_isKnown k st = some (knoF (st.1 k 6), st) := by
  unfold f_X2_isKnown knoF
  split <;> rfl
theorem kno_0 (s : Int32) : (knoF s = 0) ↔ s < 2 := by unfold knoF; split <;> simp_all
theorem e_ask (k : Nat) (st : St) : f_X2_askingSeconds k st = some (askF (st.1 k 6), st) := by
  unfold f_X2_askingSeconds askF
  simp only [e_kno, b_s, kno_0]
  split <;> rfl
theorem e_sil (k : Nat) (st : St) : f_X2_isOf k 1 st = some (silF (st.1 k 0), st) := by
  unfold f_X2_isOf silF
  by_cases h1 : st.1 k 0 = 1
  · simp only [if_pos h1]
  · by_cases h4 : st.1 k 0 = 4
    · simp [h4]
    · by_cases h5 : st.1 k 0 = 5
      · simp [h5]
      · simp [h1, h4, h5]
theorem e_hur (k : Nat) (st : St) : f_X2_isOf k 3 st = some (if st.1 k 0 = 3 then 1 else 0, st) := by
  unfold f_X2_isOf
  by_cases h1 : st.1 k 0 = 3
  · simp only [if_pos h1]
  · by_cases h4 : st.1 k 0 = 4
    · simp [h4]
    · by_cases h5 : st.1 k 0 = 5
      · simp [h5]
      · simp [h1, h4, h5]
theorem e_wro (k : Nat) (st : St) : f_X2_wrongSeconds k st = some (wroF (st.1 k 0) (st.1 k 6), st) := by
  unfold f_X2_wrongSeconds wroF
  simp only [e_ask, e_hur, b_s]
  by_cases h : st.1 k 0 = 3
  · simp [h]
  · simp [h]
theorem e_tak (k : Nat) (th m : Int32) (st : St) : f_X2_secondsFor k th m st = some (takF (st.1 k 0) (st.1 k 3) (st.1 k 4) (st.1 k 6) m th, st) := by
  unfold f_X2_secondsFor takF
  simp only [e_ask, e_wan, e_sil, e_wro, b_s]
  split
  · rfl
  · split
    · rfl
    · split <;> rfl
theorem e_sou (k : Nat) (th m : Int32) (st : St) : f_X2_isSouredBy k th m st = some (souF (st.1 k 0) (st.1 k 3) (st.1 k 4) m th, st) := by
  unfold f_X2_isSouredBy souF
  simp only [e_sil, e_wan, b_s]
  split
  · rfl
  · split
    · rfl
    · split <;> rfl
/-! the reference's -/
theorem c12 : (12 : Int32) = nI 12 := by decide +kernel
theorem c13 : (13 : Int32) = nI 13 := by decide +kernel
theorem cl12 : (12 : Int32).toNatClampNeg = 12 := by decide +kernel
theorem cl13 : (13 : Int32).toNatClampNeg = 13 := by decide +kernel
theorem in12 : inb 12 14 = true := by decide +kernel
theorem in13 : inb 13 14 = true := by decide +kernel
theorem m_wan {p : Nat} (hp : p < 6) (m : Int32) (st : St) : f_X6_wantsOn (nI p) m st = some (wanF (st.1 7 p) (st.1 10 p) (st.1 11 p) m, st) := by
  unfold f_X6_wantsOn wanF
  simp only [gd_i _ hp (by omega), e_othM, b_s, nI_clamp (show p < 2 ^ 31 by omega)]
  split <;> rfl
theorem m_now {p : Nat} (hp : p < 6) (st : St) : f_X6_wantsNow (nI p) st = some (wanF (st.1 7 p) (st.1 10 p) (st.1 11 p) (st.1 14 12), st) := by
  unfold f_X6_wantsNow
  simp only [gd_t _ in12, m_wan hp, b_s, cl12]
theorem m_kno {p : Nat} (hp : p < 6) (st : St) : f_X6_isKnown (nI p) st = some (knoF (st.1 14 p), st) := by
  unfold f_X6_isKnown knoF
  simp only [gd_i _ (show p < 14 by omega) (by omega), nI_clamp (show p < 2 ^ 31 by omega), le1]
  split <;> rfl
theorem m_ask {p : Nat} (hp : p < 6) (st : St) : f_X6_askedIn (nI p) st = some (askF (st.1 14 p), st) := by
  unfold f_X6_askedIn askF
  simp only [m_kno hp, b_s, kno_0]
  split <;> rfl
theorem m_sil {p : Nat} (hp : p < 6) (st : St) : f_X6_isSilent (nI p) st = some (silF (st.1 7 p), st) := by
  unfold f_X6_isSilent silF
  simp only [gd_i _ hp (by omega), nI_clamp (show p < 2 ^ 31 by omega)]
  split
  · rfl
  · split <;> rfl
theorem m_tak {p : Nat} (hp : p < 6) (th : Int32) (st : St) : f_X6_takesIn (nI p) th st = some (takF (st.1 7 p) (st.1 10 p) (st.1 11 p) (st.1 14 p) (st.1 14 12) th, st) := by
  unfold f_X6_takesIn takF wroF
  simp only [m_ask hp, m_now hp, m_sil hp, b_s, gd_i _ hp (show 6 < 2 ^ 31 by omega), nI_clamp (show p < 2 ^ 31 by omega), eq_comm (a := th) (b := wanF _ _ _ _)]
  split
  · rfl
  · split
    · rfl
    · split
      · split <;> rfl
      · rfl
theorem m_sou {p : Nat} (hp : p < 6) (th : Int32) (st : St) : f_X6_isSour (nI p) th st = some (souF (st.1 7 p) (st.1 10 p) (st.1 11 p) (st.1 14 12) th, st) := by
  unfold f_X6_isSour souF
  simp only [m_now hp, m_sil hp, b_s, eq_comm (a := th) (b := wanF _ _ _ _)]
  by_cases h : th = -9
  · simp [h]
  · simp only [if_neg h]
    split
    · rfl
    · split <;> rfl
