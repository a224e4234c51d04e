/-! THE CLASS'S WORLD: 44 cells -/
def eC : EE := fun G k g t =>
  if k < 1 then .inr (5, [.ref (G.2.1 1), .ref (G.2.1 8), .ref (G.2.1 9), .ref (G.2.1 14), .ref (G.2.1 15), .ref (G.2.1 23), .ref (G.2.1 42), .ref (G.2.1 43), .int (g 8), .int (g 9), .long (t 0), .long (t 1)]) else
  if k < 2 then .inl (G.2.2.1 5, 6, .inr (.inr (.inr (.inr (fun j => some (G.2.1 (2 + j))))))) else
  if k < 8 then .inl (G.2.2.1 0, 40, .inl g) else
  if k < 9 then .inl (G.2.2.1 0, 6, .inl g) else
  if k < 10 then .inl (G.2.2.1 6, 4, .inr (.inr (.inr (.inr (fun j => some (G.2.1 (10 + j))))))) else
  if k < 14 then .inl (G.2.2.1 1, 60, .inl g) else
  if k < 15 then .inl (G.2.2.1 0, 4, .inl g) else
  if k < 16 then .inr (3, [.ref (G.2.1 16), .ref (G.2.1 33), .int (g 2), .int (g 3), .int (g 4)]) else
  if k < 17 then .inl (G.2.2.1 3, 6, .inr (.inr (.inr (.inr (fun j => some (G.2.1 (17 + j))))))) else
  if k < 23 then .inr (2, [.int (g 0), .int (g 1), .int (g 2), .int (g 3), .int (g 4), .int (g 5), .int (g 6), .int (g 7)]) else
  if k < 24 then .inl (G.2.2.1 4, 3, .inr (.inr (.inr (.inr (fun j => some (G.2.1 (24 + j))))))) else
  if k < 27 then .inr (0, [.ref (G.2.1 (k + 3)), .ref (G.2.1 (k + 6)), .int (g 2)]) else
  if k < 30 then .inl (G.2.2.1 0, 6, .inl g) else
  if k < 34 then .inr (4, [.ref (G.2.1 (k + 4)), .ref (G.2.1 (k + 8)), .int (g 2)]) else
  if k < 42 then .inl (G.2.2.1 0, 60, .inl g) else
  if k < 43 then .inr (1, [.int (g 0), .int (g 1), .int (g 2)]) else
  .inl (G.2.2.1 0, 6, .inl g)
def oC (G : GG) : OO := (eC, 44, G)
def fUs (o : OO) (g : Nat → Int32) (t : Nat → Int64) : List Value := [.ref (al o 1), .ref (al o 8), .ref (al o 9), .ref (al o 14), .ref (al o 15), .ref (al o 23), .ref (al o 42), .ref (al o 43), .int (g 8), .int (g 9), .long (t 0), .long (t 1)]
def fSh (o : OO) (g : Nat → Int32) (_ : Nat → Int64) : List Value := [.ref (al o 16), .ref (al o 33), .int (g 2), .int (g 3), .int (g 4)]
def fRe (g : Nat → Int32) (_ : Nat → Int64) : List Value := [.int (g 0), .int (g 1), .int (g 2), .int (g 3), .int (g 4), .int (g 5), .int (g 6), .int (g 7)]
def fKe (o : OO) (k : Nat) (g : Nat → Int32) (_ : Nat → Int64) : List Value := [.ref (al o (k + 3)), .ref (al o (k + 6)), .int (g 2)]
def fTu (o : OO) (k : Nat) (g : Nat → Int32) (_ : Nat → Int64) : List Value := [.ref (al o (k + 4)), .ref (al o (k + 8)), .int (g 2)]
def fLi (g : Nat → Int32) (_ : Nat → Int64) : List Value := [.int (g 0), .int (g 1), .int (g 2)]
theorem bC_us {G : GG} : isObj (oC G) 0 5 (fUs (oC G)) := ⟨Nat.le_of_ble_eq_true rfl, fun _ _ => rfl⟩
theorem rC_rows {G : GG} : isRef (oC G) 1 5 6 2 := ⟨Nat.le_of_ble_eq_true rfl, fun _ _ => rfl⟩
theorem aC_row {G : GG} {k : Nat} (h1 : 2 ≤ k) (h2 : k < 8) : isArr (oC G) k 0 40 := ⟨by show k < 44; omega, fun g t => by
  show eC G k g t = _
  unfold eC
  rw [if_neg (by omega : ¬ k < 1), if_neg (by omega : ¬ k < 2), if_pos h2]
  rfl⟩
theorem aC_rs {G : GG} : isArr (oC G) 8 0 6 := ⟨Nat.le_of_ble_eq_true rfl, fun _ _ => rfl⟩
theorem rC_texts {G : GG} : isRef (oC G) 9 6 4 10 := ⟨Nat.le_of_ble_eq_true rfl, fun _ _ => rfl⟩
theorem aC_text {G : GG} {k : Nat} (h1 : 10 ≤ k) (h2 : k < 14) : isArr (oC G) k 1 60 := ⟨by show k < 44; omega, fun g t => by
  show eC G k g t = _
  unfold eC
  rw [if_neg (by omega : ¬ k < 1), if_neg (by omega : ¬ k < 2), if_neg (by omega : ¬ k < 8), if_neg (by omega : ¬ k < 9), if_neg (by omega : ¬ k < 10), if_pos h2]
  rfl⟩
theorem aC_ts {G : GG} : isArr (oC G) 14 0 4 := ⟨Nat.le_of_ble_eq_true rfl, fun _ _ => rfl⟩
theorem bC_sh {G : GG} : isObj (oC G) 15 3 (fSh (oC G)) := ⟨Nat.le_of_ble_eq_true rfl, fun _ _ => rfl⟩
theorem rC_regs {G : GG} : isRef (oC G) 16 3 6 17 := ⟨Nat.le_of_ble_eq_true rfl, fun _ _ => rfl⟩
theorem bC_re {G : GG} {k : Nat} (h1 : 17 ≤ k) (h2 : k < 23) : isObj (oC G) k 2 fRe := ⟨by show k < 44; omega, fun g t => by
  show eC G k g t = _
  unfold eC
  rw [if_neg (by omega : ¬ k < 1), if_neg (by omega : ¬ k < 2), if_neg (by omega : ¬ k < 8), if_neg (by omega : ¬ k < 9), if_neg (by omega : ¬ k < 10), if_neg (by omega : ¬ k < 14), if_neg (by omega : ¬ k < 15), if_neg (by omega : ¬ k < 16), if_neg (by omega : ¬ k < 17), if_pos h2]
  rfl⟩
theorem rC_plc {G : GG} : isRef (oC G) 23 4 3 24 := ⟨Nat.le_of_ble_eq_true rfl, fun _ _ => rfl⟩
theorem bC_ke {G : GG} {k : Nat} (h1 : 24 ≤ k) (h2 : k < 27) : isObj (oC G) k 0 (fKe (oC G) k) := ⟨by show k < 44; omega, fun g t => by
  show eC G k g t = _
  unfold eC
  rw [if_neg (by omega : ¬ k < 1), if_neg (by omega : ¬ k < 2), if_neg (by omega : ¬ k < 8), if_neg (by omega : ¬ k < 9), if_neg (by omega : ¬ k < 10), if_neg (by omega : ¬ k < 14), if_neg (by omega : ¬ k < 15), if_neg (by omega : ¬ k < 16), if_neg (by omega : ¬ k < 17), if_neg (by omega : ¬ k < 23), if_neg (by omega : ¬ k < 24), if_pos h2]
  rfl⟩
theorem aC_oth {G : GG} {k : Nat} (h1 : 27 ≤ k) (h2 : k < 30) : isArr (oC G) k 0 6 := ⟨by show k < 44; omega, fun g t => by
  show eC G k g t = _
  unfold eC
  rw [if_neg (by omega : ¬ k < 1), if_neg (by omega : ¬ k < 2), if_neg (by omega : ¬ k < 8), if_neg (by omega : ¬ k < 9), if_neg (by omega : ¬ k < 10), if_neg (by omega : ¬ k < 14), if_neg (by omega : ¬ k < 15), if_neg (by omega : ¬ k < 16), if_neg (by omega : ¬ k < 17), if_neg (by omega : ¬ k < 23), if_neg (by omega : ¬ k < 24), if_neg (by omega : ¬ k < 27), if_pos h2]
  rfl⟩
theorem bC_tu {G : GG} {k : Nat} (h1 : 30 ≤ k) (h2 : k < 34) : isObj (oC G) k 4 (fTu (oC G) k) := ⟨by show k < 44; omega, fun g t => by
  show eC G k g t = _
  unfold eC
  rw [if_neg (by omega : ¬ k < 1), if_neg (by omega : ¬ k < 2), if_neg (by omega : ¬ k < 8), if_neg (by omega : ¬ k < 9), if_neg (by omega : ¬ k < 10), if_neg (by omega : ¬ k < 14), if_neg (by omega : ¬ k < 15), if_neg (by omega : ¬ k < 16), if_neg (by omega : ¬ k < 17), if_neg (by omega : ¬ k < 23), if_neg (by omega : ¬ k < 24), if_neg (by omega : ¬ k < 27), if_neg (by omega : ¬ k < 30), if_pos h2]
  rfl⟩
theorem aC_wl {G : GG} {k : Nat} (h1 : 34 ≤ k) (h2 : k < 42) : isArr (oC G) k 0 60 := ⟨by show k < 44; omega, fun g t => by
  show eC G k g t = _
  unfold eC
  rw [if_neg (by omega : ¬ k < 1), if_neg (by omega : ¬ k < 2), if_neg (by omega : ¬ k < 8), if_neg (by omega : ¬ k < 9), if_neg (by omega : ¬ k < 10), if_neg (by omega : ¬ k < 14), if_neg (by omega : ¬ k < 15), if_neg (by omega : ¬ k < 16), if_neg (by omega : ¬ k < 17), if_neg (by omega : ¬ k < 23), if_neg (by omega : ¬ k < 24), if_neg (by omega : ¬ k < 27), if_neg (by omega : ¬ k < 30), if_neg (by omega : ¬ k < 34), if_pos h2]
  rfl⟩
theorem bC_li {G : GG} : isObj (oC G) 42 1 fLi := ⟨Nat.le_of_ble_eq_true rfl, fun _ _ => rfl⟩
theorem aC_fc {G : GG} : isArr (oC G) 43 0 6 := ⟨Nat.le_of_ble_eq_true rfl, fun _ _ => rfl⟩
theorem nC {G : GG} : noL (oC G) := by
  intro i g t t' hi
  show eC G i g t = eC G i g t'
  unfold eC
  rw [if_neg (by omega : ¬ i < 1), if_neg (by omega : ¬ i < 1)]
/-! THE REFERENCE'S WORLD: 22 cells -/
def eM : EE := fun G k g t =>
  if k < 1 then .inr (6, [.int (g 0), .ref (G.2.1 1), .int (g 2), .long (t 0), .long (t 1), .ref (G.2.1 2), .ref (G.2.1 3), .ref (G.2.1 4), .ref (G.2.1 5), .ref (G.2.1 6), .int (g 10), .ref (G.2.1 7), .ref (G.2.1 8), .ref (G.2.1 9), .ref (G.2.1 10), .ref (G.2.1 11), .ref (G.2.1 12), .int (g 17), .int (g 18), .ref (G.2.1 13), .ref (G.2.1 14), .int (g 21), .ref (G.2.1 15), .ref (G.2.1 16), .ref (G.2.1 17), .ref (G.2.1 18), .ref (G.2.1 19), .ref (G.2.1 20), .int (g 28), .int (g 29), .int (g 30), .ref (G.2.1 21), .long (t 2)]) else
  if k < 2 then .inl (G.2.2.1 0, 6, .inl g) else
  if k < 3 then .inl (G.2.2.1 0, 6, .inl g) else
  if k < 4 then .inl (G.2.2.1 0, 240, .inl g) else
  if k < 5 then .inl (G.2.2.1 0, 40, .inl g) else
  if k < 6 then .inl (G.2.2.1 0, 4, .inl g) else
  if k < 7 then .inl (G.2.2.1 1, 240, .inl g) else
  if k < 8 then .inl (G.2.2.1 0, 6, .inl g) else
  if k < 9 then .inl (G.2.2.1 0, 6, .inl g) else
  if k < 10 then .inl (G.2.2.1 0, 6, .inl g) else
  if k < 11 then .inl (G.2.2.1 0, 6, .inl g) else
  if k < 12 then .inl (G.2.2.1 0, 6, .inl g) else
  if k < 13 then .inl (G.2.2.1 0, 6, .inl g) else
  if k < 14 then .inl (G.2.2.1 0, 36, .inl g) else
  if k < 15 then .inl (G.2.2.1 0, 14, .inl g) else
  if k < 16 then .inl (G.2.2.1 0, 840, .inl g) else
  if k < 17 then .inl (G.2.2.1 2, 3, .inl g) else
  if k < 18 then .inl (G.2.2.1 0, 3, .inl g) else
  if k < 19 then .inl (G.2.2.1 0, 18, .inl g) else
  if k < 20 then .inl (G.2.2.1 0, 42, .inl g) else
  if k < 21 then .inl (G.2.2.1 0, 2520, .inl g) else
  .inl (G.2.2.1 0, 6, .inl g)
def oM (G : GG) : OO := (eM, 22, G)
def fMo (o : OO) (g : Nat → Int32) (t : Nat → Int64) : List Value := [.int (g 0), .ref (al o 1), .int (g 2), .long (t 0), .long (t 1), .ref (al o 2), .ref (al o 3), .ref (al o 4), .ref (al o 5), .ref (al o 6), .int (g 10), .ref (al o 7), .ref (al o 8), .ref (al o 9), .ref (al o 10), .ref (al o 11), .ref (al o 12), .int (g 17), .int (g 18), .ref (al o 13), .ref (al o 14), .int (g 21), .ref (al o 15), .ref (al o 16), .ref (al o 17), .ref (al o 18), .ref (al o 19), .ref (al o 20), .int (g 28), .int (g 29), .int (g 30), .ref (al o 21), .long (t 2)]
theorem bM_mo {G : GG} : isObj (oM G) 0 6 (fMo (oM G)) := ⟨Nat.le_of_ble_eq_true rfl, fun _ _ => rfl⟩
theorem aM_1 {G : GG} : isArr (oM G) 1 0 6 := ⟨Nat.le_of_ble_eq_true rfl, fun _ _ => rfl⟩
theorem aM_2 {G : GG} : isArr (oM G) 2 0 6 := ⟨Nat.le_of_ble_eq_true rfl, fun _ _ => rfl⟩
theorem aM_3 {G : GG} : isArr (oM G) 3 0 240 := ⟨Nat.le_of_ble_eq_true rfl, fun _ _ => rfl⟩
theorem aM_4 {G : GG} : isArr (oM G) 4 0 40 := ⟨Nat.le_of_ble_eq_true rfl, fun _ _ => rfl⟩
theorem aM_5 {G : GG} : isArr (oM G) 5 0 4 := ⟨Nat.le_of_ble_eq_true rfl, fun _ _ => rfl⟩
theorem aM_6 {G : GG} : isArr (oM G) 6 1 240 := ⟨Nat.le_of_ble_eq_true rfl, fun _ _ => rfl⟩
theorem aM_7 {G : GG} : isArr (oM G) 7 0 6 := ⟨Nat.le_of_ble_eq_true rfl, fun _ _ => rfl⟩
theorem aM_8 {G : GG} : isArr (oM G) 8 0 6 := ⟨Nat.le_of_ble_eq_true rfl, fun _ _ => rfl⟩
theorem aM_9 {G : GG} : isArr (oM G) 9 0 6 := ⟨Nat.le_of_ble_eq_true rfl, fun _ _ => rfl⟩
theorem aM_10 {G : GG} : isArr (oM G) 10 0 6 := ⟨Nat.le_of_ble_eq_true rfl, fun _ _ => rfl⟩
theorem aM_11 {G : GG} : isArr (oM G) 11 0 6 := ⟨Nat.le_of_ble_eq_true rfl, fun _ _ => rfl⟩
theorem aM_12 {G : GG} : isArr (oM G) 12 0 6 := ⟨Nat.le_of_ble_eq_true rfl, fun _ _ => rfl⟩
theorem aM_13 {G : GG} : isArr (oM G) 13 0 36 := ⟨Nat.le_of_ble_eq_true rfl, fun _ _ => rfl⟩
theorem aM_14 {G : GG} : isArr (oM G) 14 0 14 := ⟨Nat.le_of_ble_eq_true rfl, fun _ _ => rfl⟩
theorem aM_15 {G : GG} : isArr (oM G) 15 0 840 := ⟨Nat.le_of_ble_eq_true rfl, fun _ _ => rfl⟩
theorem aM_16 {G : GG} : isArr (oM G) 16 2 3 := ⟨Nat.le_of_ble_eq_true rfl, fun _ _ => rfl⟩
theorem aM_17 {G : GG} : isArr (oM G) 17 0 3 := ⟨Nat.le_of_ble_eq_true rfl, fun _ _ => rfl⟩
theorem aM_18 {G : GG} : isArr (oM G) 18 0 18 := ⟨Nat.le_of_ble_eq_true rfl, fun _ _ => rfl⟩
theorem aM_19 {G : GG} : isArr (oM G) 19 0 42 := ⟨Nat.le_of_ble_eq_true rfl, fun _ _ => rfl⟩
theorem aM_20 {G : GG} : isArr (oM G) 20 0 2520 := ⟨Nat.le_of_ble_eq_true rfl, fun _ _ => rfl⟩
theorem aM_21 {G : GG} : isArr (oM G) 21 0 6 := ⟨Nat.le_of_ble_eq_true rfl, fun _ _ => rfl⟩
theorem nM {G : GG} : noL (oM G) := by
  intro i g t t' hi
  show eM G i g t = eM G i g t'
  unfold eM
  rw [if_neg (by omega : ¬ i < 1), if_neg (by omega : ¬ i < 1)]
theorem sf_us_8 {o : OO} : ∀ g t v, fUs o (upd g 8 v) t = (fUs o g t).set 8 (.int v) := fun _ _ _ => rfl
theorem sj_us_8 {o : OO} : ∀ g t, 8 < (fUs o g t).length := fun _ _ => Nat.le_of_ble_eq_true rfl
theorem sf_us_9 {o : OO} : ∀ g t v, fUs o (upd g 9 v) t = (fUs o g t).set 9 (.int v) := fun _ _ _ => rfl
theorem sj_us_9 {o : OO} : ∀ g t, 9 < (fUs o g t).length := fun _ _ => Nat.le_of_ble_eq_true rfl
theorem sl_us_10 {o : OO} : ∀ g t v, fUs o g (vp_updL t 0 v) = (fUs o g t).set 10 (.long v) := fun _ _ _ => rfl
theorem sj_us_10 {o : OO} : ∀ g t, 10 < (fUs o g t).length := fun _ _ => Nat.le_of_ble_eq_true rfl
theorem sl_us_11 {o : OO} : ∀ g t v, fUs o g (vp_updL t 1 v) = (fUs o g t).set 11 (.long v) := fun _ _ _ => rfl
theorem sj_us_11 {o : OO} : ∀ g t, 11 < (fUs o g t).length := fun _ _ => Nat.le_of_ble_eq_true rfl
theorem sf_sh_2 {o : OO} : ∀ g t v, fSh o (upd g 2 v) t = (fSh o g t).set 2 (.int v) := fun _ _ _ => rfl
theorem sj_sh_2 {o : OO} : ∀ g t, 2 < (fSh o g t).length := fun _ _ => Nat.le_of_ble_eq_true rfl
theorem sf_sh_3 {o : OO} : ∀ g t v, fSh o (upd g 3 v) t = (fSh o g t).set 3 (.int v) := fun _ _ _ => rfl
theorem sj_sh_3 {o : OO} : ∀ g t, 3 < (fSh o g t).length := fun _ _ => Nat.le_of_ble_eq_true rfl
theorem sf_sh_4 {o : OO} : ∀ g t v, fSh o (upd g 4 v) t = (fSh o g t).set 4 (.int v) := fun _ _ _ => rfl
theorem sj_sh_4 {o : OO} : ∀ g t, 4 < (fSh o g t).length := fun _ _ => Nat.le_of_ble_eq_true rfl
theorem sf_re_0  : ∀ g t v, fRe (upd g 0 v) t = (fRe g t).set 0 (.int v) := fun _ _ _ => rfl
theorem sj_re_0  : ∀ g t, 0 < (fRe g t).length := fun _ _ => Nat.le_of_ble_eq_true rfl
theorem sf_re_1  : ∀ g t v, fRe (upd g 1 v) t = (fRe g t).set 1 (.int v) := fun _ _ _ => rfl
theorem sj_re_1  : ∀ g t, 1 < (fRe g t).length := fun _ _ => Nat.le_of_ble_eq_true rfl
theorem sf_re_2  : ∀ g t v, fRe (upd g 2 v) t = (fRe g t).set 2 (.int v) := fun _ _ _ => rfl
theorem sj_re_2  : ∀ g t, 2 < (fRe g t).length := fun _ _ => Nat.le_of_ble_eq_true rfl
theorem sf_re_3  : ∀ g t v, fRe (upd g 3 v) t = (fRe g t).set 3 (.int v) := fun _ _ _ => rfl
theorem sj_re_3  : ∀ g t, 3 < (fRe g t).length := fun _ _ => Nat.le_of_ble_eq_true rfl
theorem sf_re_4  : ∀ g t v, fRe (upd g 4 v) t = (fRe g t).set 4 (.int v) := fun _ _ _ => rfl
theorem sj_re_4  : ∀ g t, 4 < (fRe g t).length := fun _ _ => Nat.le_of_ble_eq_true rfl
theorem sf_re_5  : ∀ g t v, fRe (upd g 5 v) t = (fRe g t).set 5 (.int v) := fun _ _ _ => rfl
theorem sj_re_5  : ∀ g t, 5 < (fRe g t).length := fun _ _ => Nat.le_of_ble_eq_true rfl
theorem sf_re_6  : ∀ g t v, fRe (upd g 6 v) t = (fRe g t).set 6 (.int v) := fun _ _ _ => rfl
theorem sj_re_6  : ∀ g t, 6 < (fRe g t).length := fun _ _ => Nat.le_of_ble_eq_true rfl
theorem sf_re_7  : ∀ g t v, fRe (upd g 7 v) t = (fRe g t).set 7 (.int v) := fun _ _ _ => rfl
theorem sj_re_7  : ∀ g t, 7 < (fRe g t).length := fun _ _ => Nat.le_of_ble_eq_true rfl
theorem sf_ke_2 {o : OO} {k : Nat} : ∀ g t v, fKe o k (upd g 2 v) t = (fKe o k g t).set 2 (.int v) := fun _ _ _ => rfl
theorem sj_ke_2 {o : OO} {k : Nat} : ∀ g t, 2 < (fKe o k g t).length := fun _ _ => Nat.le_of_ble_eq_true rfl
theorem sf_tu_2 {o : OO} {k : Nat} : ∀ g t v, fTu o k (upd g 2 v) t = (fTu o k g t).set 2 (.int v) := fun _ _ _ => rfl
theorem sj_tu_2 {o : OO} {k : Nat} : ∀ g t, 2 < (fTu o k g t).length := fun _ _ => Nat.le_of_ble_eq_true rfl
theorem sf_li_0  : ∀ g t v, fLi (upd g 0 v) t = (fLi g t).set 0 (.int v) := fun _ _ _ => rfl
theorem sj_li_0  : ∀ g t, 0 < (fLi g t).length := fun _ _ => Nat.le_of_ble_eq_true rfl
theorem sf_li_1  : ∀ g t v, fLi (upd g 1 v) t = (fLi g t).set 1 (.int v) := fun _ _ _ => rfl
theorem sj_li_1  : ∀ g t, 1 < (fLi g t).length := fun _ _ => Nat.le_of_ble_eq_true rfl
theorem sf_li_2  : ∀ g t v, fLi (upd g 2 v) t = (fLi g t).set 2 (.int v) := fun _ _ _ => rfl
theorem sj_li_2  : ∀ g t, 2 < (fLi g t).length := fun _ _ => Nat.le_of_ble_eq_true rfl
theorem sf_mo_0 {o : OO} : ∀ g t v, fMo o (upd g 0 v) t = (fMo o g t).set 0 (.int v) := fun _ _ _ => rfl
theorem sj_mo_0 {o : OO} : ∀ g t, 0 < (fMo o g t).length := fun _ _ => Nat.le_of_ble_eq_true rfl
theorem sf_mo_2 {o : OO} : ∀ g t v, fMo o (upd g 2 v) t = (fMo o g t).set 2 (.int v) := fun _ _ _ => rfl
theorem sj_mo_2 {o : OO} : ∀ g t, 2 < (fMo o g t).length := fun _ _ => Nat.le_of_ble_eq_true rfl
theorem sf_mo_10 {o : OO} : ∀ g t v, fMo o (upd g 10 v) t = (fMo o g t).set 10 (.int v) := fun _ _ _ => rfl
theorem sj_mo_10 {o : OO} : ∀ g t, 10 < (fMo o g t).length := fun _ _ => Nat.le_of_ble_eq_true rfl
theorem sf_mo_17 {o : OO} : ∀ g t v, fMo o (upd g 17 v) t = (fMo o g t).set 17 (.int v) := fun _ _ _ => rfl
theorem sj_mo_17 {o : OO} : ∀ g t, 17 < (fMo o g t).length := fun _ _ => Nat.le_of_ble_eq_true rfl
theorem sf_mo_18 {o : OO} : ∀ g t v, fMo o (upd g 18 v) t = (fMo o g t).set 18 (.int v) := fun _ _ _ => rfl
theorem sj_mo_18 {o : OO} : ∀ g t, 18 < (fMo o g t).length := fun _ _ => Nat.le_of_ble_eq_true rfl
theorem sf_mo_21 {o : OO} : ∀ g t v, fMo o (upd g 21 v) t = (fMo o g t).set 21 (.int v) := fun _ _ _ => rfl
theorem sj_mo_21 {o : OO} : ∀ g t, 21 < (fMo o g t).length := fun _ _ => Nat.le_of_ble_eq_true rfl
theorem sf_mo_28 {o : OO} : ∀ g t v, fMo o (upd g 28 v) t = (fMo o g t).set 28 (.int v) := fun _ _ _ => rfl
theorem sj_mo_28 {o : OO} : ∀ g t, 28 < (fMo o g t).length := fun _ _ => Nat.le_of_ble_eq_true rfl
theorem sf_mo_29 {o : OO} : ∀ g t v, fMo o (upd g 29 v) t = (fMo o g t).set 29 (.int v) := fun _ _ _ => rfl
theorem sj_mo_29 {o : OO} : ∀ g t, 29 < (fMo o g t).length := fun _ _ => Nat.le_of_ble_eq_true rfl
theorem sf_mo_30 {o : OO} : ∀ g t v, fMo o (upd g 30 v) t = (fMo o g t).set 30 (.int v) := fun _ _ _ => rfl
theorem sj_mo_30 {o : OO} : ∀ g t, 30 < (fMo o g t).length := fun _ _ => Nat.le_of_ble_eq_true rfl
theorem sl_mo_3 {o : OO} : ∀ g t v, fMo o g (vp_updL t 0 v) = (fMo o g t).set 3 (.long v) := fun _ _ _ => rfl
theorem sj_mo_3 {o : OO} : ∀ g t, 3 < (fMo o g t).length := fun _ _ => Nat.le_of_ble_eq_true rfl
theorem sl_mo_4 {o : OO} : ∀ g t v, fMo o g (vp_updL t 1 v) = (fMo o g t).set 4 (.long v) := fun _ _ _ => rfl
theorem sj_mo_4 {o : OO} : ∀ g t, 4 < (fMo o g t).length := fun _ _ => Nat.le_of_ble_eq_true rfl
theorem sl_mo_32 {o : OO} : ∀ g t v, fMo o g (vp_updL t 2 v) = (fMo o g t).set 32 (.long v) := fun _ _ _ => rfl
theorem sj_mo_32 {o : OO} : ∀ g t, 32 < (fMo o g t).length := fun _ _ => Nat.le_of_ble_eq_true rfl
