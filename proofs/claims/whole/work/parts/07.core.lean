/-! THE STATE: ints by cell and place, longs by number; the world: a fixed row of cells at addresses that stay -/
abbrev St : Type := (Nat → Nat → Int32) × (Nat → Int64)
abbrev GG : Type := va_G × (Nat → Nat) × (Nat → ClassId) × (Nat → Nat)
abbrev EE : Type := GG → Nat → (Nat → Int32) → (Nat → Int64) → va_E
abbrev OO : Type := EE × Nat × GG
abbrev oD (o : OO) : va_G := o.2.2.1
abbrev al (o : OO) (k : Nat) : Nat := o.2.2.2.1 k
abbrev cy (o : OO) (k : Nat) : ClassId := o.2.2.2.2.1 k
abbrev tl (o : OO) (k : Nat) : Nat := o.2.2.2.2.2 k
def wd (o : OO) (st : St) : va_W := (List.range o.2.1).map (fun k => (al o k, o.1 o.2.2 k (st.1 k) st.2))
theorem wd_get {o : OO} (st : St) {k : Nat} (h : k < o.2.1) : (wd o st)[k]? = some (al o k, o.1 o.2.2 k (st.1 k) st.2) := by
  unfold wd
  rw [List.getElem?_map, List.getElem?_range h]
  rfl
theorem wd_none {o : OO} (st : St) {k : Nat} (h : ¬ k < o.2.1) : (wd o st)[k]? = none := by
  unfold wd
  rw [List.getElem?_map, List.getElem?_eq_none (by simpa using Nat.not_lt.mp h)]
  rfl
theorem wd_set {o : OO} {st st' : St} {k : Nat} {e : va_E} (h : k < o.2.1) (he : o.1 o.2.2 k (st'.1 k) st'.2 = e) (hr : ∀ i, i ≠ k → o.1 o.2.2 i (st'.1 i) st'.2 = o.1 o.2.2 i (st.1 i) st.2) : (wd o st).set k (al o k, e) = wd o st' := by
  apply List.ext_getElem?
  intro i
  have hl : k < (wd o st).length := (List.getElem?_eq_some_iff.mp (wd_get st h)).1
  by_cases hi : i < o.2.1
  · rw [wd_get st' hi]
    by_cases hk : i = k
    · subst hk
      rw [List.getElem?_set_self hl, he]
    · rw [List.getElem?_set_ne (fun q => hk q.symm), wd_get st hi, hr i hk]
  · rw [wd_none st' hi]
    have hk : ¬ k = i := fun q => hi (q ▸ h)
    rw [List.getElem?_set_ne hk, wd_none st hi]
theorem wd_ad {o : OO} {st : St} (st' : St) {k : Nat} {q : Nat × va_E} (h : (wd o st)[k]? = some q) : ∃ q', (wd o st')[k]? = some q' ∧ q'.1 = q.1 := by
  by_cases hk : k < o.2.1
  · rw [wd_get st hk] at h
    cases h
    exact ⟨_, wd_get st' hk, rfl⟩
  · rw [wd_none st hk] at h
    cases h
theorem wd_D {o : OO} {st st' : St} {A : Nat → Prop} (h : va_D A (wd o st)) : va_D A (wd o st') := by
  refine ⟨fun i j p q hi hj hpq => ?_, fun k q hk => ?_⟩
  · obtain ⟨p', h1, e1⟩ := wd_ad st hi
    obtain ⟨q', h2, e2⟩ := wd_ad st hj
    exact h.1 i j p' q' h1 h2 (by rw [e1, e2]; exact hpq)
  · obtain ⟨q', h2, e2⟩ := wd_ad st hk
    rw [← e2]
    exact h.2 k q' h2
theorem wd_A {o : OO} {st st' : St} {sz q : Nat} (h : va_A (wd o st) sz q) : va_A (wd o st') sz q := by
  rcases h with ⟨k, e, h⟩ | h
  · obtain ⟨q', h2, e2⟩ := wd_ad st' h
    refine Or.inl ⟨k, q'.2, ?_⟩
    rw [h2]
    show some q' = some (q, q'.2)
    cases q'
    cases e2
    rfl
  · exact Or.inr h
/-- cell k gets the row f -/
def sA (st : St) (k : Nat) (f : Nat → Int32) : St := (fun q => if q = k then f else st.1 q, st.2)
def sL (st : St) (j : Nat) (v : Int64) : St := (st.1, vp_updL st.2 j v)
theorem sA_k {st : St} {k : Nat} {f : Nat → Int32} : (sA st k f).1 k = f := if_pos rfl
theorem sA_n {st : St} {k i : Nat} {f : Nat → Int32} (h : i ≠ k) : (sA st k f).1 i = st.1 i := if_neg h
theorem sA_2 {st : St} {k : Nat} {f : Nat → Int32} : (sA st k f).2 = st.2 := rfl
theorem sL_1 {st : St} {j : Nat} {v : Int64} : (sL st j v).1 = st.1 := rfl
theorem sL_2 {st : St} {j : Nat} {v : Int64} : (sL st j v).2 = vp_updL st.2 j v := rfl
/-- an index that is inside -/
def inb (i : Int32) (n : Nat) : Bool := decide (0 ≤ i) && decide (i.toNatClampNeg < n)
theorem inb_in {i : Int32} {n : Nat} (h : inb i n = true) : vp_in i n := by
  unfold inb at h
  simp only [Bool.and_eq_true, decide_eq_true_eq] at h
  rintro (q | q)
  · exact absurd h.1 (Int32.not_le.mpr q)
  · omega
theorem inb_lt {i : Int32} {n : Nat} (h : inb i n = true) : i.toNatClampNeg < n := by
  unfold inb at h
  simp only [Bool.and_eq_true, decide_eq_true_eq] at h
  exact h.2
theorem inb_ge {i : Int32} {n : Nat} (h : inb i n = true) : 0 ≤ i := by
  unfold inb at h
  simp only [Bool.and_eq_true, decide_eq_true_eq] at h
  exact h.1
/-- what must hold, or nothing is said -/
def gd {α : Type} (b : Bool) (x : Option α) : Option α := if b = true then x else none
theorem gd_1 {α : Type} {b : Bool} {x : Option α} {y : α} (h : gd b x = some y) : b = true := by
  unfold gd at h
  by_cases hb : b = true
  · exact hb
  · rw [if_neg hb] at h; cases h
theorem gd_2 {α : Type} {b : Bool} {x : Option α} {y : α} (h : gd b x = some y) : x = some y := by
  have hb := gd_1 h
  unfold gd at h
  rwa [if_pos hb] at h
theorem if_t {α : Type} {c : Prop} {hd : Decidable c} {a b y : α} (hc : c) (h : (if c then a else b) = y) : a = y := by rwa [if_pos hc] at h
theorem if_f {α : Type} {c : Prop} {hd : Decidable c} {a b y : α} (hc : ¬ c) (h : (if c then a else b) = y) : b = y := by rwa [if_neg hc] at h
theorem bd_s {α β : Type} {x : Option α} {f : α → Option β} {y : β} (h : x.bind f = some y) : ∃ q, x = some q ∧ f q = some y := by
  cases x with
  | none => cases h
  | some q => exact ⟨q, rfl, h⟩
/-- a loop: body, at most n times -/
def iter {β γ : Type} (body : β → Option (β ⊕ γ)) : Nat → β → Option γ
  | 0, _ => none
  | n + 1, v => (body v).bind (fun o => match o with
    | .inl v' => iter body n v'
    | .inr g => some g)
theorem iter_rule {β γ : Type} {body : β → Option (β ⊕ γ)} {hd : β → Prop} {ex : γ → Prop} (hb : ∀ v o, body v = some o → Sum.elim hd ex o → hd v) : ∀ (n : Nat) (v : β) (g : γ), iter body n v = some g → ex g → hd v
  | 0, _, _, h, _ => by cases h
  | n + 1, v, g, h, hx => by
    obtain ⟨o, h1, h2⟩ := bd_s h
    cases o with
    | inl v' => exact hb v _ h1 (iter_rule hb n v' g h2 hx)
    | inr g' =>
      cases h2
      exact hb v _ h1 hx
/-- how often a loop may go round -/
theorem fuel_ex : ∃ n : Nat, n = 5000 := ⟨5000, rfl⟩
noncomputable def fuel : Nat := Classical.choose fuel_ex
theorem fuel_eq : fuel = 5000 := Classical.choose_spec fuel_ex
/-! static arrays -/
def tb0 : Nat → Int32 := fun j => if j = 0 then 114 else if j = 1 then 115 else if j = 2 then 99 else if j = 3 then 104 else if j = 4 then 121 else 102
def tb1 : Nat → Int32 := fun j => if j = 5 then 1 else 0
def tb2 : Nat → Int32 := fun j => if j = 0 then 0 else if j = 1 then 3 else if j = 2 then 3 else if j = 3 then 5 else if j = 4 then 5 else 9
def sx (o : OO) (A : Nat → Prop) (U : State) (H : Heap) : Prop :=
  va_Z "TheUsual" "LETTERS" "[I" (.ref (tl o 0)) A U H ∧ va_T .int (tl o 0) 6 (fun j => .int (tb0 j)) A U H ∧ va_Z "TheUsual" "LEAST_FIGURES" "[I" (.ref (tl o 1)) A U H ∧ va_T .int (tl o 1) 6 (fun j => .int (tb1 j)) A U H ∧ va_Z "TheUsual" "GREATEST_FIGURES" "[I" (.ref (tl o 2)) A U H ∧ va_T .int (tl o 2) 6 (fun j => .int (tb2 j)) A U H
theorem sx_moved {o : OO} {A : Nat → Prop} {u U : State} {H : Heap} (hvm : u.vm.Alike U.vm) (h : sx o A u H) : sx o A U H := ⟨h.1.moved hvm, h.2.1.moved hvm, h.2.2.1.moved hvm, h.2.2.2.1.moved hvm, h.2.2.2.2.1.moved hvm, h.2.2.2.2.2.moved hvm⟩
theorem sx_kept {o : OO} {A : Nat → Prop} {U : State} {H H1 : Heap} (h : sx o A U H) (hq : ∀ a : Nat, a < H.size → ¬ A a → H1[a]? = H[a]?) : sx o A U H1 := ⟨h.1.kept hq, h.2.1.kept hq, h.2.2.1.kept hq, h.2.2.2.1.kept hq, h.2.2.2.2.1.kept hq, h.2.2.2.2.2.kept hq⟩
theorem sx_narrow {o : OO} {A B : Nat → Prop} {U : State} {H : Heap} (h : sx o A U H) (hAB : ∀ q, B q → A q) : sx o B U H := ⟨h.1.narrow hAB, h.2.1.narrow hAB, h.2.2.1.narrow hAB, h.2.2.2.1.narrow hAB, h.2.2.2.2.1.narrow hAB, h.2.2.2.2.2.narrow hAB⟩
def tyG (o : OO) : List (ClassId × FieldType) := [(cy o 0, .int), (cy o 1, .byte), (cy o 2, .boolean), (cy o 3, .object "TheUsual$Regular"), (cy o 4, .object "TheUsual$Kept"), (cy o 5, .array .int), (cy o 6, .array .byte)]
/-! the words that every contract has; the entries of nest mates' private methods come with the start -/
def gtb : List Cond := lw_tbl.filter goodWord
theorem g_mem {w : Cond} (i : Nat) (h : lw_tbl[i]? = some w) (hg : goodWord w = true) : w ∈ gtb := List.mem_filter.mpr ⟨List.mem_of_getElem? h, hg⟩
def nx (U : State) : Prop := va_Nw (.methodLinkNest RX2 9 yX5_kindOf "TheUsual") U ∧ va_Nw (.methodLinkNest RX2 37 yX5_wantsOther "TheUsual") U
theorem nx_same {u U : State} (h : u.vm = U.vm) (q : nx u) : nx U := ⟨q.1.same rfl h, q.2.same rfl h⟩
theorem nx_warm {s U : State} (hW : s.WarmedH U.vm) (q : nx s) : nx U := ⟨q.1.warmM hW, q.2.warmM hW⟩
/-! THE JUDGEMENT -/
abbrev Cx : Type := Program × Launch × Env × Room × State × MethodId × Array Value × List Frame × Method × Code × Nat × Nat × (State → Prop) × (Nat → Prop)
abbrev xp (X : Cx) : Program := X.1
abbrev xl (X : Cx) : Launch := X.2.1
abbrev xe (X : Cx) : Env := X.2.2.1
abbrev xR (X : Cx) : Room := X.2.2.2.1
abbrev xS (X : Cx) : State := X.2.2.2.2.1
abbrev xm (X : Cx) : MethodId := X.2.2.2.2.2.1
abbrev xa (X : Cx) : Array Value := X.2.2.2.2.2.2.1
abbrev xb (X : Cx) : List Frame := X.2.2.2.2.2.2.2.1
abbrev xM (X : Cx) : Method := X.2.2.2.2.2.2.2.2.1
abbrev xc (X : Cx) : Code := X.2.2.2.2.2.2.2.2.2.1
abbrev xC (X : Cx) : Nat := X.2.2.2.2.2.2.2.2.2.2.1
abbrev xs (X : Cx) : Nat := X.2.2.2.2.2.2.2.2.2.2.2.1
abbrev xQ (X : Cx) : State → Prop := X.2.2.2.2.2.2.2.2.2.2.2.2.1
abbrev xA (X : Cx) : Nat → Prop := X.2.2.2.2.2.2.2.2.2.2.2.2.2
def Wk (X : Cx) (o : OO) (nL : Nat) (st : St) (pc : Nat) (lv : List (Nat × Value)) (stk : List Value) : Prop :=
  ∀ (H : Heap) (locs : List Loc) (ls : Array Slot), va_P (oD o) vwCl (wd o st) H → va_S (xA X) (xS X).heap H locs → lv_has ls nL lv →
    W (xp X) (xl X) (xe X) (xR X) (xS X) (xm X) (xa X) (xb X) (xM X) (xc X) H locs (xC X) (xs X) (xQ X) (F0 (xm X) pc ls stk)
def Ok (X : Cx) (o : OO) (cc : ByteArray) (own : String) (nL : Nat) (R : Room) : Prop :=
  (xp X).tables.exec = Jvm.exec ∧ (xc X).code = cc ∧ (xc X).maxLocals = nL ∧ (xS X).vm.findClass own = some (xm X).cls ∧ (∀ w ∈ gtb, w.before (xa X) (xS X) = true) ∧
  va_K (oD o) vwCl (tyG o) (xS X) ∧ (∀ st, va_D (xA X) (wd o st)) ∧ (∀ q, (xS X).heap.size ≤ q → xA X q) ∧ sx o (xA X) (xS X) (xS X).heap ∧ xR X = R ∧ xC X ≤ R.cells ∧ xs X ≤ R.slots ∧ nx (xS X)
def Rt (X : Cx) (o : OO) (P : Option Value → St → Prop) (ret : Option FieldType) : Prop :=
  (xM X).sig.returnType = ret ∧ (xM X).locks = false ∧ ∃ (Qc : Array Value → State → Outcome → State → Prop) (free : Addr → Prop), xQ X = MQ (xb X) Qc (xa X) (xS X) (xC X) (xs X) free ∧ (∀ q, xA X q → free q) ∧
    ∀ (H : Heap) (locs : List Loc) (v : Option Value) (st : St), va_P (oD o) vwCl (wd o st) H → va_S (xA X) (xS X).heap H locs → P v st → ∀ t : State, t.heap = H → (xS X).WarmedH t.vm → Qc (xa X) (xS X) (.returned v) t
/-! cells by kind -/
def isArr (o : OO) (k ty n : Nat) : Prop := k < o.2.1 ∧ ∀ g t, o.1 o.2.2 k g t = .inl (cy o ty, n, .inl g)
def isRef (o : OO) (k ty n a0 : Nat) : Prop := k < o.2.1 ∧ ∀ g t, o.1 o.2.2 k g t = .inl (cy o ty, n, .inr (.inr (.inr (.inr (fun j => some (al o (a0 + j)))))))
def isObj (o : OO) (k ci : Nat) (F : (Nat → Int32) → (Nat → Int64) → List Value) : Prop := k < o.2.1 ∧ ∀ g t, o.1 o.2.2 k g t = .inr (ci, F g t)
/-- only cell 0 reads the longs -/
def noL (o : OO) : Prop := ∀ i g t t', i ≠ 0 → o.1 o.2.2 i g t = o.1 o.2.2 i g t'
/-- a field by its entry -/
def FL (own : String) (idx ci j : Nat) : Prop := ∃ (C : String) (T : u_T) (N : Nat), vwCl[ci]? = some (C, T, N) ∧ (∀ w ∈ u_ws C T N, w ∈ gtb) ∧ j < N ∧ Cond.fieldLink own idx (T j).1 (T j).2.1 (T j).2.2.1 ∈ gtb
def FP (own : String) (idx ci j : Nat) (ty : FieldType) : Prop := ∃ (C : String) (T : u_T) (N : Nat) (ty0 : Nat → FieldType), vwCl[ci]? = some (C, T, N) ∧ (∀ w ∈ u_ws C T N, w ∈ gtb) ∧ j < N ∧ Cond.fieldLink own idx (T j).1 (T j).2.1 (T j).2.2.1 ∈ gtb ∧ (∀ k, k < N → parseFieldDescriptor (T k).2.2.1 = some (ty0 k)) ∧ (∀ a, a < N → ∀ b, b < N → a ≠ b → (T a).2.1 ≠ (T b).2.1) ∧ (T j).2.2.2 = false ∧ parseFieldDescriptor (T j).2.2.1 = some ty
