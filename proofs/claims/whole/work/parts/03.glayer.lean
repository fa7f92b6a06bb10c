/-! The judgement G: W with locals as a list, the world as a list of cells; its rules; contracts CoI, CoV in that form. Own work over the kit's rows. -/
abbrev gT (cB cI cJ : ClassId) : List (ClassId × FieldType) := [(cB, .byte), (cI, .int), (cJ, .long)]
abbrev GC : Type := Program × Launch × Env × Room × State × MethodId × Array Value × List Frame × Method × Code × (State → Prop) × (Nat → Prop)
def G (D : va_G) (nL : Nat) (k : GC) (cells slots pc : Nat) (L : List (Nat × Value)) (st : List Value) (ws : va_W) : Prop := match k with
  | (p, l, e, R, s, m, args, below, meth, c, Q, A) => ∀ (H : Heap) (locs : List Loc) (ls : Array Slot), lv_has ls nL L → va_P D zCl ws H → va_D A ws → va_S A s.heap H locs → W p l e R s m args below meth c H locs cells slots Q (F0 m pc ls st)
def GF (k : GC) (l' : Launch) (R' : Room) (cc : ByteArray) (nL : Nat) (own : String) (D : va_G) (cB cI cJ : ClassId) : Prop := match k with
  | (p, l, e, R, s, m, args, below, meth, c, Q, A) => CallFix p m c cc nL s args AW own ∧ va_K D zCl (gT cB cI cJ) s ∧ NK s ∧ l' = l ∧ R' = R ∧ (∀ q, s.heap.size ≤ q → A q)
def ush (x y : Int32) : Int32 := (x.toUInt32 >>> (y.toUInt32 &&& Int32.toUInt32 31)).toInt32
def lush (x : Int64) (y : Int32) : Int64 := (x.toUInt64 >>> (y.toInt64.toUInt64 &&& Int64.toUInt64 63)).toInt64
def lshl (x : Int64) (y : Int32) : Int64 := x <<< (y.toInt64 &&& 63)
def lshr (x : Int64) (y : Int32) : Int64 := x >>> (y.toInt64 &&& 63)
def bnd {α β : Type} (a : α) (k : α → β) : β := k a
theorem bnd_s {α β : Type} {a : α} {k : α → β} {r : β} (h : bnd a k = r) : ∃ x, x = a ∧ k x = r := ⟨a, rfl, h⟩
def gd {α : Type} (c : Prop) [Decidable c] (x : Option α) : Option α := if c then x else none
theorem gd_s {α : Type} {c : Prop} [Decidable c] {x : Option α} {r : α} (h : gd c x = some r) : c ∧ x = some r := by
  unfold gd at h
  by_cases hc : c
  · rw [if_pos hc] at h; exact ⟨hc, h⟩
  · rw [if_neg hc] at h; cases h
theorem gd_t {α : Type} {c : Prop} [Decidable c] {x : Option α} (h : c) : gd c x = x := if_pos h
theorem iP {α : Type} {c : Prop} [Decidable c] {a b r : α} (h : (if c then a else b) = r) (hc : c) : a = r := by rw [if_pos hc] at h; exact h
theorem iN {α : Type} {c : Prop} [Decidable c] {a b r : α} (h : (if c then a else b) = r) (hc : ¬ c) : b = r := by rw [if_neg hc] at h; exact h
def bc0 {ρ : Type} (o : Option Unit) (k : Unit → Option ρ) : Option ρ := match o with
  | none => none
  | some a => k a
theorem bc0_s {ρ : Type} {o : Option Unit} {k : Unit → Option ρ} {r : ρ} (h : bc0 o k = some r) : o = some () ∧ k () = some r := by
  cases o with
  | none => cases h
  | some a => exact ⟨rfl, h⟩
def bc1 {α ρ : Type} (o : Option α) (k : α → Option ρ) : Option ρ := match o with
  | none => none
  | some a => k a
theorem bc1_s {α ρ : Type} {o : Option α} {k : α → Option ρ} {r : ρ} (h : bc1 o k = some r) : ∃ a, o = some a ∧ k a = some r := by
  cases o with
  | none => cases h
  | some a => exact ⟨a, rfl, h⟩
def bc2 {T0 T1 ρ : Type} (o : Option (T0 × T1)) (k : T0 → T1 → Option ρ) : Option ρ := match o with
  | none => none
  | some (a0, a1) => k a0 a1
theorem bc2_s {T0 T1 ρ : Type} {o : Option (T0 × T1)} {k : T0 → T1 → Option ρ} {r : ρ} (h : bc2 o k = some r) : ∃ a0 a1, o = some (a0, a1) ∧ k a0 a1 = some r := by
  cases o with
  | none => cases h
  | some a =>
    obtain ⟨a0, a1⟩ := a
    exact ⟨a0, a1, rfl, h⟩
theorem inj2 {T0 T1 : Type} {a0 b0 : T0} {a1 b1 : T1} (h : some (a0, a1) = some (b0, b1)) : a0 = b0 ∧ a1 = b1 := by
  cases h
  exact ⟨rfl, rfl⟩
def bc3 {T0 T1 T2 ρ : Type} (o : Option (T0 × T1 × T2)) (k : T0 → T1 → T2 → Option ρ) : Option ρ := match o with
  | none => none
  | some (a0, a1, a2) => k a0 a1 a2
theorem bc3_s {T0 T1 T2 ρ : Type} {o : Option (T0 × T1 × T2)} {k : T0 → T1 → T2 → Option ρ} {r : ρ} (h : bc3 o k = some r) : ∃ a0 a1 a2, o = some (a0, a1, a2) ∧ k a0 a1 a2 = some r := by
  cases o with
  | none => cases h
  | some a =>
    obtain ⟨a0, a1, a2⟩ := a
    exact ⟨a0, a1, a2, rfl, h⟩
theorem inj3 {T0 T1 T2 : Type} {a0 b0 : T0} {a1 b1 : T1} {a2 b2 : T2} (h : some (a0, a1, a2) = some (b0, b1, b2)) : a0 = b0 ∧ a1 = b1 ∧ a2 = b2 := by
  cases h
  exact ⟨rfl, rfl, rfl⟩
def bc4 {T0 T1 T2 T3 ρ : Type} (o : Option (T0 × T1 × T2 × T3)) (k : T0 → T1 → T2 → T3 → Option ρ) : Option ρ := match o with
  | none => none
  | some (a0, a1, a2, a3) => k a0 a1 a2 a3
theorem bc4_s {T0 T1 T2 T3 ρ : Type} {o : Option (T0 × T1 × T2 × T3)} {k : T0 → T1 → T2 → T3 → Option ρ} {r : ρ} (h : bc4 o k = some r) : ∃ a0 a1 a2 a3, o = some (a0, a1, a2, a3) ∧ k a0 a1 a2 a3 = some r := by
  cases o with
  | none => cases h
  | some a =>
    obtain ⟨a0, a1, a2, a3⟩ := a
    exact ⟨a0, a1, a2, a3, rfl, h⟩
theorem inj4 {T0 T1 T2 T3 : Type} {a0 b0 : T0} {a1 b1 : T1} {a2 b2 : T2} {a3 b3 : T3} (h : some (a0, a1, a2, a3) = some (b0, b1, b2, b3)) : a0 = b0 ∧ a1 = b1 ∧ a2 = b2 ∧ a3 = b3 := by
  cases h
  exact ⟨rfl, rfl, rfl, rfl⟩
def bc5 {T0 T1 T2 T3 T4 ρ : Type} (o : Option (T0 × T1 × T2 × T3 × T4)) (k : T0 → T1 → T2 → T3 → T4 → Option ρ) : Option ρ := match o with
  | none => none
  | some (a0, a1, a2, a3, a4) => k a0 a1 a2 a3 a4
theorem bc5_s {T0 T1 T2 T3 T4 ρ : Type} {o : Option (T0 × T1 × T2 × T3 × T4)} {k : T0 → T1 → T2 → T3 → T4 → Option ρ} {r : ρ} (h : bc5 o k = some r) : ∃ a0 a1 a2 a3 a4, o = some (a0, a1, a2, a3, a4) ∧ k a0 a1 a2 a3 a4 = some r := by
  cases o with
  | none => cases h
  | some a =>
    obtain ⟨a0, a1, a2, a3, a4⟩ := a
    exact ⟨a0, a1, a2, a3, a4, rfl, h⟩
theorem inj5 {T0 T1 T2 T3 T4 : Type} {a0 b0 : T0} {a1 b1 : T1} {a2 b2 : T2} {a3 b3 : T3} {a4 b4 : T4} (h : some (a0, a1, a2, a3, a4) = some (b0, b1, b2, b3, b4)) : a0 = b0 ∧ a1 = b1 ∧ a2 = b2 ∧ a3 = b3 ∧ a4 = b4 := by
  cases h
  exact ⟨rfl, rfl, rfl, rfl, rfl⟩
def bc6 {T0 T1 T2 T3 T4 T5 ρ : Type} (o : Option (T0 × T1 × T2 × T3 × T4 × T5)) (k : T0 → T1 → T2 → T3 → T4 → T5 → Option ρ) : Option ρ := match o with
  | none => none
  | some (a0, a1, a2, a3, a4, a5) => k a0 a1 a2 a3 a4 a5
theorem bc6_s {T0 T1 T2 T3 T4 T5 ρ : Type} {o : Option (T0 × T1 × T2 × T3 × T4 × T5)} {k : T0 → T1 → T2 → T3 → T4 → T5 → Option ρ} {r : ρ} (h : bc6 o k = some r) : ∃ a0 a1 a2 a3 a4 a5, o = some (a0, a1, a2, a3, a4, a5) ∧ k a0 a1 a2 a3 a4 a5 = some r := by
  cases o with
  | none => cases h
  | some a =>
    obtain ⟨a0, a1, a2, a3, a4, a5⟩ := a
    exact ⟨a0, a1, a2, a3, a4, a5, rfl, h⟩
theorem inj6 {T0 T1 T2 T3 T4 T5 : Type} {a0 b0 : T0} {a1 b1 : T1} {a2 b2 : T2} {a3 b3 : T3} {a4 b4 : T4} {a5 b5 : T5} (h : some (a0, a1, a2, a3, a4, a5) = some (b0, b1, b2, b3, b4, b5)) : a0 = b0 ∧ a1 = b1 ∧ a2 = b2 ∧ a3 = b3 ∧ a4 = b4 ∧ a5 = b5 := by
  cases h
  exact ⟨rfl, rfl, rfl, rfl, rfl, rfl⟩
def bc7 {T0 T1 T2 T3 T4 T5 T6 ρ : Type} (o : Option (T0 × T1 × T2 × T3 × T4 × T5 × T6)) (k : T0 → T1 → T2 → T3 → T4 → T5 → T6 → Option ρ) : Option ρ := match o with
  | none => none
  | some (a0, a1, a2, a3, a4, a5, a6) => k a0 a1 a2 a3 a4 a5 a6
theorem bc7_s {T0 T1 T2 T3 T4 T5 T6 ρ : Type} {o : Option (T0 × T1 × T2 × T3 × T4 × T5 × T6)} {k : T0 → T1 → T2 → T3 → T4 → T5 → T6 → Option ρ} {r : ρ} (h : bc7 o k = some r) : ∃ a0 a1 a2 a3 a4 a5 a6, o = some (a0, a1, a2, a3, a4, a5, a6) ∧ k a0 a1 a2 a3 a4 a5 a6 = some r := by
  cases o with
  | none => cases h
  | some a =>
    obtain ⟨a0, a1, a2, a3, a4, a5, a6⟩ := a
    exact ⟨a0, a1, a2, a3, a4, a5, a6, rfl, h⟩
theorem inj7 {T0 T1 T2 T3 T4 T5 T6 : Type} {a0 b0 : T0} {a1 b1 : T1} {a2 b2 : T2} {a3 b3 : T3} {a4 b4 : T4} {a5 b5 : T5} {a6 b6 : T6} (h : some (a0, a1, a2, a3, a4, a5, a6) = some (b0, b1, b2, b3, b4, b5, b6)) : a0 = b0 ∧ a1 = b1 ∧ a2 = b2 ∧ a3 = b3 ∧ a4 = b4 ∧ a5 = b5 ∧ a6 = b6 := by
  cases h
  exact ⟨rfl, rfl, rfl, rfl, rfl, rfl, rfl⟩
def bc8 {T0 T1 T2 T3 T4 T5 T6 T7 ρ : Type} (o : Option (T0 × T1 × T2 × T3 × T4 × T5 × T6 × T7)) (k : T0 → T1 → T2 → T3 → T4 → T5 → T6 → T7 → Option ρ) : Option ρ := match o with
  | none => none
  | some (a0, a1, a2, a3, a4, a5, a6, a7) => k a0 a1 a2 a3 a4 a5 a6 a7
theorem bc8_s {T0 T1 T2 T3 T4 T5 T6 T7 ρ : Type} {o : Option (T0 × T1 × T2 × T3 × T4 × T5 × T6 × T7)} {k : T0 → T1 → T2 → T3 → T4 → T5 → T6 → T7 → Option ρ} {r : ρ} (h : bc8 o k = some r) : ∃ a0 a1 a2 a3 a4 a5 a6 a7, o = some (a0, a1, a2, a3, a4, a5, a6, a7) ∧ k a0 a1 a2 a3 a4 a5 a6 a7 = some r := by
  cases o with
  | none => cases h
  | some a =>
    obtain ⟨a0, a1, a2, a3, a4, a5, a6, a7⟩ := a
    exact ⟨a0, a1, a2, a3, a4, a5, a6, a7, rfl, h⟩
theorem inj8 {T0 T1 T2 T3 T4 T5 T6 T7 : Type} {a0 b0 : T0} {a1 b1 : T1} {a2 b2 : T2} {a3 b3 : T3} {a4 b4 : T4} {a5 b5 : T5} {a6 b6 : T6} {a7 b7 : T7} (h : some (a0, a1, a2, a3, a4, a5, a6, a7) = some (b0, b1, b2, b3, b4, b5, b6, b7)) : a0 = b0 ∧ a1 = b1 ∧ a2 = b2 ∧ a3 = b3 ∧ a4 = b4 ∧ a5 = b5 ∧ a6 = b6 ∧ a7 = b7 := by
  cases h
  exact ⟨rfl, rfl, rfl, rfl, rfl, rfl, rfl, rfl⟩
def bc9 {T0 T1 T2 T3 T4 T5 T6 T7 T8 ρ : Type} (o : Option (T0 × T1 × T2 × T3 × T4 × T5 × T6 × T7 × T8)) (k : T0 → T1 → T2 → T3 → T4 → T5 → T6 → T7 → T8 → Option ρ) : Option ρ := match o with
  | none => none
  | some (a0, a1, a2, a3, a4, a5, a6, a7, a8) => k a0 a1 a2 a3 a4 a5 a6 a7 a8
theorem bc9_s {T0 T1 T2 T3 T4 T5 T6 T7 T8 ρ : Type} {o : Option (T0 × T1 × T2 × T3 × T4 × T5 × T6 × T7 × T8)} {k : T0 → T1 → T2 → T3 → T4 → T5 → T6 → T7 → T8 → Option ρ} {r : ρ} (h : bc9 o k = some r) : ∃ a0 a1 a2 a3 a4 a5 a6 a7 a8, o = some (a0, a1, a2, a3, a4, a5, a6, a7, a8) ∧ k a0 a1 a2 a3 a4 a5 a6 a7 a8 = some r := by
  cases o with
  | none => cases h
  | some a =>
    obtain ⟨a0, a1, a2, a3, a4, a5, a6, a7, a8⟩ := a
    exact ⟨a0, a1, a2, a3, a4, a5, a6, a7, a8, rfl, h⟩
theorem inj9 {T0 T1 T2 T3 T4 T5 T6 T7 T8 : Type} {a0 b0 : T0} {a1 b1 : T1} {a2 b2 : T2} {a3 b3 : T3} {a4 b4 : T4} {a5 b5 : T5} {a6 b6 : T6} {a7 b7 : T7} {a8 b8 : T8} (h : some (a0, a1, a2, a3, a4, a5, a6, a7, a8) = some (b0, b1, b2, b3, b4, b5, b6, b7, b8)) : a0 = b0 ∧ a1 = b1 ∧ a2 = b2 ∧ a3 = b3 ∧ a4 = b4 ∧ a5 = b5 ∧ a6 = b6 ∧ a7 = b7 ∧ a8 = b8 := by
  cases h
  exact ⟨rfl, rfl, rfl, rfl, rfl, rfl, rfl, rfl, rfl⟩
def bc10 {T0 T1 T2 T3 T4 T5 T6 T7 T8 T9 ρ : Type} (o : Option (T0 × T1 × T2 × T3 × T4 × T5 × T6 × T7 × T8 × T9)) (k : T0 → T1 → T2 → T3 → T4 → T5 → T6 → T7 → T8 → T9 → Option ρ) : Option ρ := match o with
  | none => none
  | some (a0, a1, a2, a3, a4, a5, a6, a7, a8, a9) => k a0 a1 a2 a3 a4 a5 a6 a7 a8 a9
theorem bc10_s {T0 T1 T2 T3 T4 T5 T6 T7 T8 T9 ρ : Type} {o : Option (T0 × T1 × T2 × T3 × T4 × T5 × T6 × T7 × T8 × T9)} {k : T0 → T1 → T2 → T3 → T4 → T5 → T6 → T7 → T8 → T9 → Option ρ} {r : ρ} (h : bc10 o k = some r) : ∃ a0 a1 a2 a3 a4 a5 a6 a7 a8 a9, o = some (a0, a1, a2, a3, a4, a5, a6, a7, a8, a9) ∧ k a0 a1 a2 a3 a4 a5 a6 a7 a8 a9 = some r := by
  cases o with
  | none => cases h
  | some a =>
    obtain ⟨a0, a1, a2, a3, a4, a5, a6, a7, a8, a9⟩ := a
    exact ⟨a0, a1, a2, a3, a4, a5, a6, a7, a8, a9, rfl, h⟩
theorem inj10 {T0 T1 T2 T3 T4 T5 T6 T7 T8 T9 : Type} {a0 b0 : T0} {a1 b1 : T1} {a2 b2 : T2} {a3 b3 : T3} {a4 b4 : T4} {a5 b5 : T5} {a6 b6 : T6} {a7 b7 : T7} {a8 b8 : T8} {a9 b9 : T9} (h : some (a0, a1, a2, a3, a4, a5, a6, a7, a8, a9) = some (b0, b1, b2, b3, b4, b5, b6, b7, b8, b9)) : a0 = b0 ∧ a1 = b1 ∧ a2 = b2 ∧ a3 = b3 ∧ a4 = b4 ∧ a5 = b5 ∧ a6 = b6 ∧ a7 = b7 ∧ a8 = b8 ∧ a9 = b9 := by
  cases h
  exact ⟨rfl, rfl, rfl, rfl, rfl, rfl, rfl, rfl, rfl, rfl⟩
def bc11 {T0 T1 T2 T3 T4 T5 T6 T7 T8 T9 T10 ρ : Type} (o : Option (T0 × T1 × T2 × T3 × T4 × T5 × T6 × T7 × T8 × T9 × T10)) (k : T0 → T1 → T2 → T3 → T4 → T5 → T6 → T7 → T8 → T9 → T10 → Option ρ) : Option ρ := match o with
  | none => none
  | some (a0, a1, a2, a3, a4, a5, a6, a7, a8, a9, a10) => k a0 a1 a2 a3 a4 a5 a6 a7 a8 a9 a10
theorem bc11_s {T0 T1 T2 T3 T4 T5 T6 T7 T8 T9 T10 ρ : Type} {o : Option (T0 × T1 × T2 × T3 × T4 × T5 × T6 × T7 × T8 × T9 × T10)} {k : T0 → T1 → T2 → T3 → T4 → T5 → T6 → T7 → T8 → T9 → T10 → Option ρ} {r : ρ} (h : bc11 o k = some r) : ∃ a0 a1 a2 a3 a4 a5 a6 a7 a8 a9 a10, o = some (a0, a1, a2, a3, a4, a5, a6, a7, a8, a9, a10) ∧ k a0 a1 a2 a3 a4 a5 a6 a7 a8 a9 a10 = some r := by
  cases o with
  | none => cases h
  | some a =>
    obtain ⟨a0, a1, a2, a3, a4, a5, a6, a7, a8, a9, a10⟩ := a
    exact ⟨a0, a1, a2, a3, a4, a5, a6, a7, a8, a9, a10, rfl, h⟩
theorem inj11 {T0 T1 T2 T3 T4 T5 T6 T7 T8 T9 T10 : Type} {a0 b0 : T0} {a1 b1 : T1} {a2 b2 : T2} {a3 b3 : T3} {a4 b4 : T4} {a5 b5 : T5} {a6 b6 : T6} {a7 b7 : T7} {a8 b8 : T8} {a9 b9 : T9} {a10 b10 : T10} (h : some (a0, a1, a2, a3, a4, a5, a6, a7, a8, a9, a10) = some (b0, b1, b2, b3, b4, b5, b6, b7, b8, b9, b10)) : a0 = b0 ∧ a1 = b1 ∧ a2 = b2 ∧ a3 = b3 ∧ a4 = b4 ∧ a5 = b5 ∧ a6 = b6 ∧ a7 = b7 ∧ a8 = b8 ∧ a9 = b9 ∧ a10 = b10 := by
  cases h
  exact ⟨rfl, rfl, rfl, rfl, rfl, rfl, rfl, rfl, rfl, rfl, rfl⟩
def bc12 {T0 T1 T2 T3 T4 T5 T6 T7 T8 T9 T10 T11 ρ : Type} (o : Option (T0 × T1 × T2 × T3 × T4 × T5 × T6 × T7 × T8 × T9 × T10 × T11)) (k : T0 → T1 → T2 → T3 → T4 → T5 → T6 → T7 → T8 → T9 → T10 → T11 → Option ρ) : Option ρ := match o with
  | none => none
  | some (a0, a1, a2, a3, a4, a5, a6, a7, a8, a9, a10, a11) => k a0 a1 a2 a3 a4 a5 a6 a7 a8 a9 a10 a11
theorem bc12_s {T0 T1 T2 T3 T4 T5 T6 T7 T8 T9 T10 T11 ρ : Type} {o : Option (T0 × T1 × T2 × T3 × T4 × T5 × T6 × T7 × T8 × T9 × T10 × T11)} {k : T0 → T1 → T2 → T3 → T4 → T5 → T6 → T7 → T8 → T9 → T10 → T11 → Option ρ} {r : ρ} (h : bc12 o k = some r) : ∃ a0 a1 a2 a3 a4 a5 a6 a7 a8 a9 a10 a11, o = some (a0, a1, a2, a3, a4, a5, a6, a7, a8, a9, a10, a11) ∧ k a0 a1 a2 a3 a4 a5 a6 a7 a8 a9 a10 a11 = some r := by
  cases o with
  | none => cases h
  | some a =>
    obtain ⟨a0, a1, a2, a3, a4, a5, a6, a7, a8, a9, a10, a11⟩ := a
    exact ⟨a0, a1, a2, a3, a4, a5, a6, a7, a8, a9, a10, a11, rfl, h⟩
theorem inj12 {T0 T1 T2 T3 T4 T5 T6 T7 T8 T9 T10 T11 : Type} {a0 b0 : T0} {a1 b1 : T1} {a2 b2 : T2} {a3 b3 : T3} {a4 b4 : T4} {a5 b5 : T5} {a6 b6 : T6} {a7 b7 : T7} {a8 b8 : T8} {a9 b9 : T9} {a10 b10 : T10} {a11 b11 : T11} (h : some (a0, a1, a2, a3, a4, a5, a6, a7, a8, a9, a10, a11) = some (b0, b1, b2, b3, b4, b5, b6, b7, b8, b9, b10, b11)) : a0 = b0 ∧ a1 = b1 ∧ a2 = b2 ∧ a3 = b3 ∧ a4 = b4 ∧ a5 = b5 ∧ a6 = b6 ∧ a7 = b7 ∧ a8 = b8 ∧ a9 = b9 ∧ a10 = b10 ∧ a11 = b11 := by
  cases h
  exact ⟨rfl, rfl, rfl, rfl, rfl, rfl, rfl, rfl, rfl, rfl, rfl, rfl⟩
theorem bc1_e {α ρ : Type} (a : α) (k : α → Option ρ) : bc1 (some a) k = k a := rfl
theorem bc2_e {T0 T1 ρ : Type} (a0 : T0) (a1 : T1) (k : T0 → T1 → Option ρ) : bc2 (some (a0, a1)) k = k a0 a1 := rfl
theorem bc3_e {T0 T1 T2 ρ : Type} (a0 : T0) (a1 : T1) (a2 : T2) (k : T0 → T1 → T2 → Option ρ) : bc3 (some (a0, a1, a2)) k = k a0 a1 a2 := rfl
theorem bc4_e {T0 T1 T2 T3 ρ : Type} (a0 : T0) (a1 : T1) (a2 : T2) (a3 : T3) (k : T0 → T1 → T2 → T3 → Option ρ) : bc4 (some (a0, a1, a2, a3)) k = k a0 a1 a2 a3 := rfl
theorem bc5_e {T0 T1 T2 T3 T4 ρ : Type} (a0 : T0) (a1 : T1) (a2 : T2) (a3 : T3) (a4 : T4) (k : T0 → T1 → T2 → T3 → T4 → Option ρ) : bc5 (some (a0, a1, a2, a3, a4)) k = k a0 a1 a2 a3 a4 := rfl
theorem bc6_e {T0 T1 T2 T3 T4 T5 ρ : Type} (a0 : T0) (a1 : T1) (a2 : T2) (a3 : T3) (a4 : T4) (a5 : T5) (k : T0 → T1 → T2 → T3 → T4 → T5 → Option ρ) : bc6 (some (a0, a1, a2, a3, a4, a5)) k = k a0 a1 a2 a3 a4 a5 := rfl
theorem bc7_e {T0 T1 T2 T3 T4 T5 T6 ρ : Type} (a0 : T0) (a1 : T1) (a2 : T2) (a3 : T3) (a4 : T4) (a5 : T5) (a6 : T6) (k : T0 → T1 → T2 → T3 → T4 → T5 → T6 → Option ρ) : bc7 (some (a0, a1, a2, a3, a4, a5, a6)) k = k a0 a1 a2 a3 a4 a5 a6 := rfl
theorem bc8_e {T0 T1 T2 T3 T4 T5 T6 T7 ρ : Type} (a0 : T0) (a1 : T1) (a2 : T2) (a3 : T3) (a4 : T4) (a5 : T5) (a6 : T6) (a7 : T7) (k : T0 → T1 → T2 → T3 → T4 → T5 → T6 → T7 → Option ρ) : bc8 (some (a0, a1, a2, a3, a4, a5, a6, a7)) k = k a0 a1 a2 a3 a4 a5 a6 a7 := rfl
theorem bc9_e {T0 T1 T2 T3 T4 T5 T6 T7 T8 ρ : Type} (a0 : T0) (a1 : T1) (a2 : T2) (a3 : T3) (a4 : T4) (a5 : T5) (a6 : T6) (a7 : T7) (a8 : T8) (k : T0 → T1 → T2 → T3 → T4 → T5 → T6 → T7 → T8 → Option ρ) : bc9 (some (a0, a1, a2, a3, a4, a5, a6, a7, a8)) k = k a0 a1 a2 a3 a4 a5 a6 a7 a8 := rfl
theorem bc10_e {T0 T1 T2 T3 T4 T5 T6 T7 T8 T9 ρ : Type} (a0 : T0) (a1 : T1) (a2 : T2) (a3 : T3) (a4 : T4) (a5 : T5) (a6 : T6) (a7 : T7) (a8 : T8) (a9 : T9) (k : T0 → T1 → T2 → T3 → T4 → T5 → T6 → T7 → T8 → T9 → Option ρ) : bc10 (some (a0, a1, a2, a3, a4, a5, a6, a7, a8, a9)) k = k a0 a1 a2 a3 a4 a5 a6 a7 a8 a9 := rfl
theorem bc11_e {T0 T1 T2 T3 T4 T5 T6 T7 T8 T9 T10 ρ : Type} (a0 : T0) (a1 : T1) (a2 : T2) (a3 : T3) (a4 : T4) (a5 : T5) (a6 : T6) (a7 : T7) (a8 : T8) (a9 : T9) (a10 : T10) (k : T0 → T1 → T2 → T3 → T4 → T5 → T6 → T7 → T8 → T9 → T10 → Option ρ) : bc11 (some (a0, a1, a2, a3, a4, a5, a6, a7, a8, a9, a10)) k = k a0 a1 a2 a3 a4 a5 a6 a7 a8 a9 a10 := rfl
theorem bc12_e {T0 T1 T2 T3 T4 T5 T6 T7 T8 T9 T10 T11 ρ : Type} (a0 : T0) (a1 : T1) (a2 : T2) (a3 : T3) (a4 : T4) (a5 : T5) (a6 : T6) (a7 : T7) (a8 : T8) (a9 : T9) (a10 : T10) (a11 : T11) (k : T0 → T1 → T2 → T3 → T4 → T5 → T6 → T7 → T8 → T9 → T10 → T11 → Option ρ) : bc12 (some (a0, a1, a2, a3, a4, a5, a6, a7, a8, a9, a10, a11)) k = k a0 a1 a2 a3 a4 a5 a6 a7 a8 a9 a10 a11 := rfl
theorem bc1_id {α : Type} (o : Option α) : bc1 o (fun a => some a) = o := by cases o <;> rfl
theorem bc2_id {α β : Type} (o : Option (α × β)) : bc2 o (fun a b => some (a, b)) = o := by
  cases o with
  | none => rfl
  | some x => rfl
theorem bc2_as {α β γ δ ρ : Type} (o : Option (α × β)) (f : α → β → Option (γ × δ)) (g : γ → δ → Option ρ) : bc2 (bc2 o f) g = bc2 o (fun a b => bc2 (f a b) g) := by
  cases o with
  | none => rfl
  | some x => rfl
theorem bc3_id {α β γ : Type} (o : Option (α × β × γ)) : bc3 o (fun a b c => some (a, b, c)) = o := by
  cases o with
  | none => rfl
  | some x => rfl
theorem bc4_id {α β γ δ : Type} (o : Option (α × β × γ × δ)) : bc4 o (fun a b c d => some (a, b, c, d)) = o := by
  cases o with
  | none => rfl
  | some x => rfl
theorem hf0 {R : Room} : 0 ≤ R.cells ∧ 0 ≤ R.slots := ⟨Nat.zero_le _, Nat.zero_le _⟩
section GR
variable {k : GC} {l : Launch} {R : Room} {cc : ByteArray} {nL : Nat} {own : String} {D : va_G} {cB cI cJ : ClassId} {cells slots pc : Nat} {L L' : List (Nat × Value)} {st : List Value} {ws ws' : va_W}
theorem G_lv (is : List Nat) (hs : lv_pick L is = L') (kk : G D nL k cells slots pc L' st ws) : G D nL k cells slots pc L st ws := by
  obtain ⟨p, l, e, R, s, m, args, below, meth, c, Q, A⟩ := k
  exact fun H locs ls h1 h2 h3 h4 => kk H locs ls (lv_sub h1 is hs) h2 h3 h4
theorem G_topi {x y : Int32} (h : y = x) (kk : G D nL k cells slots pc L (.int y :: st) ws) : G D nL k cells slots pc L (.int x :: st) ws := h ▸ kk
theorem G_topj {x y : Int64} (h : y = x) (kk : G D nL k cells slots pc L (.long y :: st) ws) : G D nL k cells slots pc L (.long x :: st) ws := h ▸ kk
theorem G_iload_n (F : GF k l R cc nL own D cB cI cJ) {j i : Nat} {q : Fin 4} {x : Int32} (d : decode cc pc = .ok (.iload_n q, 1)) (hi : (q : Nat) = i) (hj : L[j]? = some (i, .int x)) (kk : G D nL k cells slots (pc + 1) L (.int x :: st) ws) : G D nL k cells slots pc L st ws := by
  obtain ⟨p, l, e, R, s, m, args, below, meth, c, Q, A⟩ := k
  exact fun H locs ls h1 h2 h3 h4 => lv_iload_n F.1.1 F.1.2.1 d hi (lv_at h1 j hj) (kk H locs ls h1 h2 h3 h4)
theorem G_iload (F : GF k l R cc nL own D cB cI cJ) {j i : Nat} {x : Int32} (d : decode cc pc = .ok (.iload i, 2)) (hj : L[j]? = some (i, .int x)) (kk : G D nL k cells slots (pc + 2) L (.int x :: st) ws) : G D nL k cells slots pc L st ws := by
  obtain ⟨p, l, e, R, s, m, args, below, meth, c, Q, A⟩ := k
  exact fun H locs ls h1 h2 h3 h4 => lv_iload F.1.1 F.1.2.1 d (lv_at h1 j hj) (kk H locs ls h1 h2 h3 h4)
theorem G_lload_n (F : GF k l R cc nL own D cB cI cJ) {j i : Nat} {q : Fin 4} {x : Int64} (d : decode cc pc = .ok (.lload_n q, 1)) (hi : (q : Nat) = i) (hj : L[j]? = some (i, .long x)) (kk : G D nL k cells slots (pc + 1) L (.long x :: st) ws) : G D nL k cells slots pc L st ws := by
  obtain ⟨p, l, e, R, s, m, args, below, meth, c, Q, A⟩ := k
  exact fun H locs ls h1 h2 h3 h4 => lv_lload_n F.1.1 F.1.2.1 d hi (lv_at h1 j hj) (kk H locs ls h1 h2 h3 h4)
theorem G_lload (F : GF k l R cc nL own D cB cI cJ) {j i : Nat} {x : Int64} (d : decode cc pc = .ok (.lload i, 2)) (hj : L[j]? = some (i, .long x)) (kk : G D nL k cells slots (pc + 2) L (.long x :: st) ws) : G D nL k cells slots pc L st ws := by
  obtain ⟨p, l, e, R, s, m, args, below, meth, c, Q, A⟩ := k
  exact fun H locs ls h1 h2 h3 h4 => lv_lload F.1.1 F.1.2.1 d (lv_at h1 j hj) (kk H locs ls h1 h2 h3 h4)
theorem G_aload_n (F : GF k l R cc nL own D cB cI cJ) {j i : Nat} {q : Fin 4} {x : Nat} (d : decode cc pc = .ok (.aload_n q, 1)) (hi : (q : Nat) = i) (hj : L[j]? = some (i, .ref x)) (kk : G D nL k cells slots (pc + 1) L (.ref x :: st) ws) : G D nL k cells slots pc L st ws := by
  obtain ⟨p, l, e, R, s, m, args, below, meth, c, Q, A⟩ := k
  exact fun H locs ls h1 h2 h3 h4 => lv_aload_n F.1.1 F.1.2.1 d hi (lv_at h1 j hj) (kk H locs ls h1 h2 h3 h4)
theorem G_aload (F : GF k l R cc nL own D cB cI cJ) {j i : Nat} {x : Nat} (d : decode cc pc = .ok (.aload i, 2)) (hj : L[j]? = some (i, .ref x)) (kk : G D nL k cells slots (pc + 2) L (.ref x :: st) ws) : G D nL k cells slots pc L st ws := by
  obtain ⟨p, l, e, R, s, m, args, below, meth, c, Q, A⟩ := k
  exact fun H locs ls h1 h2 h3 h4 => lv_aload F.1.1 F.1.2.1 d (lv_at h1 j hj) (kk H locs ls h1 h2 h3 h4)
theorem G_istore_n (F : GF k l R cc nL own D cB cI cJ) {i : Nat} {q : Fin 4} {x : Int32} (d : decode cc pc = .ok (.istore_n q, 1)) (hi : (q : Nat) = i) (hn : i < nL) (hl : (i, Value.int x) :: L.filter (fun q => !(q.1 == i) && !(q.1 + 1 == i && q.2.category == 2)) = L') (kk : G D nL k cells slots (pc + 1) L' st ws) : G D nL k cells slots pc L (.int x :: st) ws := by
  obtain ⟨p, l, e, R, s, m, args, below, meth, c, Q, A⟩ := k
  exact fun H locs ls h1 h2 h3 h4 => lv_istore_n F.1.1 F.1.2.1 d hi h1 hn hl (fun ls' h1' => kk H locs ls' h1' h2 h3 h4)
theorem G_istore (F : GF k l R cc nL own D cB cI cJ) {i : Nat} {x : Int32} (d : decode cc pc = .ok (.istore i, 2)) (hn : i < nL) (hl : (i, Value.int x) :: L.filter (fun q => !(q.1 == i) && !(q.1 + 1 == i && q.2.category == 2)) = L') (kk : G D nL k cells slots (pc + 2) L' st ws) : G D nL k cells slots pc L (.int x :: st) ws := by
  obtain ⟨p, l, e, R, s, m, args, below, meth, c, Q, A⟩ := k
  exact fun H locs ls h1 h2 h3 h4 => lv_istore F.1.1 F.1.2.1 d h1 hn hl (fun ls' h1' => kk H locs ls' h1' h2 h3 h4)
theorem G_lstore_n (F : GF k l R cc nL own D cB cI cJ) {i : Nat} {q : Fin 4} {x : Int64} (d : decode cc pc = .ok (.lstore_n q, 1)) (hi : (q : Nat) = i) (hn : i + 1 < nL) (hl : (i, Value.long x) :: L.filter (fun q => !(q.1 == i) && (!(q.1 == i + 1) && !(q.1 + 1 == i && q.2.category == 2))) = L') (kk : G D nL k cells slots (pc + 1) L' st ws) : G D nL k cells slots pc L (.long x :: st) ws := by
  obtain ⟨p, l, e, R, s, m, args, below, meth, c, Q, A⟩ := k
  exact fun H locs ls h1 h2 h3 h4 => lv_lstore_n F.1.1 F.1.2.1 d hi h1 hn hl (fun ls' h1' => kk H locs ls' h1' h2 h3 h4)
theorem G_lstore (F : GF k l R cc nL own D cB cI cJ) {i : Nat} {x : Int64} (d : decode cc pc = .ok (.lstore i, 2)) (hn : i + 1 < nL) (hl : (i, Value.long x) :: L.filter (fun q => !(q.1 == i) && (!(q.1 == i + 1) && !(q.1 + 1 == i && q.2.category == 2))) = L') (kk : G D nL k cells slots (pc + 2) L' st ws) : G D nL k cells slots pc L (.long x :: st) ws := by
  obtain ⟨p, l, e, R, s, m, args, below, meth, c, Q, A⟩ := k
  exact fun H locs ls h1 h2 h3 h4 => lv_lstore F.1.1 F.1.2.1 d h1 hn hl (fun ls' h1' => kk H locs ls' h1' h2 h3 h4)
theorem G_astore_n (F : GF k l R cc nL own D cB cI cJ) {i : Nat} {q : Fin 4} {x : Nat} (d : decode cc pc = .ok (.astore_n q, 1)) (hi : (q : Nat) = i) (hn : i < nL) (hl : (i, Value.ref x) :: L.filter (fun q => !(q.1 == i) && !(q.1 + 1 == i && q.2.category == 2)) = L') (kk : G D nL k cells slots (pc + 1) L' st ws) : G D nL k cells slots pc L (.ref x :: st) ws := by
  obtain ⟨p, l, e, R, s, m, args, below, meth, c, Q, A⟩ := k
  exact fun H locs ls h1 h2 h3 h4 => lv_astore_n F.1.1 F.1.2.1 d hi h1 hn hl (fun ls' h1' => kk H locs ls' h1' h2 h3 h4)
theorem G_astore (F : GF k l R cc nL own D cB cI cJ) {i : Nat} {x : Nat} (d : decode cc pc = .ok (.astore i, 2)) (hn : i < nL) (hl : (i, Value.ref x) :: L.filter (fun q => !(q.1 == i) && !(q.1 + 1 == i && q.2.category == 2)) = L') (kk : G D nL k cells slots (pc + 2) L' st ws) : G D nL k cells slots pc L (.ref x :: st) ws := by
  obtain ⟨p, l, e, R, s, m, args, below, meth, c, Q, A⟩ := k
  exact fun H locs ls h1 h2 h3 h4 => lv_astore F.1.1 F.1.2.1 d h1 hn hl (fun ls' h1' => kk H locs ls' h1' h2 h3 h4)
theorem G_iinc (F : GF k l R cc nL own D cB cI cJ) {i j : Nat} {n : Int} {x v w : Int32} (d : decode cc pc = .ok (.iinc i n, 3)) (hj : L[j]? = some (i, .int x)) (hw : Int32.ofInt n = w) (hv : v = x + w) (hn : i < nL) (hl : (i, Value.int v) :: L.filter (fun q => !(q.1 == i) && !(q.1 + 1 == i && q.2.category == 2)) = L') (kk : G D nL k cells slots (pc + 3) L' st ws) : G D nL k cells slots pc L st ws := by
  obtain ⟨p, l, e, R, s, m, args, below, meth, c, Q, A⟩ := k
  exact fun H locs ls h1 h2 h3 h4 => lv_iinc F.1.1 F.1.2.1 d h1 hj (by rw [hw, hv]) hn hl (fun ls' h1' => kk H locs ls' h1' h2 h3 h4)
theorem G_iinc_w (F : GF k l R cc nL own D cB cI cJ) {i j : Nat} {n : Int} {x v w : Int32} (d : decode cc pc = .ok (.iinc i n, 6)) (hj : L[j]? = some (i, .int x)) (hw : Int32.ofInt n = w) (hv : v = x + w) (hn : i < nL) (hl : (i, Value.int v) :: L.filter (fun q => !(q.1 == i) && !(q.1 + 1 == i && q.2.category == 2)) = L') (kk : G D nL k cells slots (pc + 6) L' st ws) : G D nL k cells slots pc L st ws := by
  obtain ⟨p, l, e, R, s, m, args, below, meth, c, Q, A⟩ := k
  exact fun H locs ls h1 h2 h3 h4 => lv_iincW F.1.1 F.1.2.1 d h1 hj (by rw [hw, hv]) hn hl (fun ls' h1' => kk H locs ls' h1' h2 h3 h4)
theorem G_iconst (F : GF k l R cc nL own D cB cI cJ) {n : Int} {v : Int32} (d : decode cc pc = .ok (.iconst n, 1)) (hv : Int32.ofInt n = v) (kk : G D nL k cells slots (pc + 1) L (.int v :: st) ws) : G D nL k cells slots pc L st ws := by
  obtain ⟨p, l, e, R, s, m, args, below, meth, c, Q, A⟩ := k
  exact fun H locs ls h1 h2 h3 h4 => lv_iconst F.1.1 F.1.2.1 d hv (kk H locs ls h1 h2 h3 h4)
theorem G_bipush (F : GF k l R cc nL own D cB cI cJ) {n : Int} {v : Int32} (d : decode cc pc = .ok (.bipush n, 2)) (hv : (Int8.ofInt n).toInt32 = v) (kk : G D nL k cells slots (pc + 2) L (.int v :: st) ws) : G D nL k cells slots pc L st ws := by
  obtain ⟨p, l, e, R, s, m, args, below, meth, c, Q, A⟩ := k
  exact fun H locs ls h1 h2 h3 h4 => lv_bipush F.1.1 F.1.2.1 d hv (kk H locs ls h1 h2 h3 h4)
theorem G_sipush (F : GF k l R cc nL own D cB cI cJ) {n : Int} {v : Int32} (d : decode cc pc = .ok (.sipush n, 3)) (hv : (Int16.ofInt n).toInt32 = v) (kk : G D nL k cells slots (pc + 3) L (.int v :: st) ws) : G D nL k cells slots pc L st ws := by
  obtain ⟨p, l, e, R, s, m, args, below, meth, c, Q, A⟩ := k
  exact fun H locs ls h1 h2 h3 h4 => lv_sipush F.1.1 F.1.2.1 d hv (kk H locs ls h1 h2 h3 h4)
theorem G_ldc (F : GF k l R cc nL own D cB cI cJ) {index : Nat} {v : Int32} (hc : Cond.constant own index v ∈ AW) (d : decode cc pc = .ok (.ldc index, 2)) (kk : G D nL k cells slots (pc + 2) L (.int v :: st) ws) : G D nL k cells slots pc L st ws := by
  obtain ⟨p, l, e, R, s, m, args, below, meth, c, Q, A⟩ := k
  exact fun H locs ls h1 h2 h3 h4 => lv_ldc F.1.1 F.1.2.1 F.1.2.2.2.1 (F.1.2.2.2.2 _ hc) d (kk H locs ls h1 h2 h3 h4)
theorem G_ldc2 (F : GF k l R cc nL own D cB cI cJ) {index : Nat} {v : Int64} (hc : Cond.constantLong own index v ∈ AW) (d : decode cc pc = .ok (.ldc2_w index, 3)) (kk : G D nL k cells slots (pc + 3) L (.long v :: st) ws) : G D nL k cells slots pc L st ws := by
  obtain ⟨p, l, e, R, s, m, args, below, meth, c, Q, A⟩ := k
  exact fun H locs ls h1 h2 h3 h4 => lv_ldc2 F.1.1 F.1.2.1 F.1.2.2.2.1 (F.1.2.2.2.2 _ hc) d (kk H locs ls h1 h2 h3 h4)
theorem G_iadd (F : GF k l R cc nL own D cB cI cJ) {x y : Int32} (d : decode cc pc = .ok (.iadd, 1)) (kk : G D nL k cells slots (pc + 1) L (.int (x + y) :: st) ws) : G D nL k cells slots pc L (.int y :: .int x :: st) ws := by
  obtain ⟨p, l, e, R, s, m, args, below, meth, c, Q, A⟩ := k
  exact fun H locs ls h1 h2 h3 h4 => lv_iadd F.1.1 F.1.2.1 d (kk H locs ls h1 h2 h3 h4)
theorem G_isub (F : GF k l R cc nL own D cB cI cJ) {x y : Int32} (d : decode cc pc = .ok (.isub, 1)) (kk : G D nL k cells slots (pc + 1) L (.int (x - y) :: st) ws) : G D nL k cells slots pc L (.int y :: .int x :: st) ws := by
  obtain ⟨p, l, e, R, s, m, args, below, meth, c, Q, A⟩ := k
  exact fun H locs ls h1 h2 h3 h4 => lv_isub F.1.1 F.1.2.1 d (kk H locs ls h1 h2 h3 h4)
theorem G_imul (F : GF k l R cc nL own D cB cI cJ) {x y : Int32} (d : decode cc pc = .ok (.imul, 1)) (kk : G D nL k cells slots (pc + 1) L (.int (x * y) :: st) ws) : G D nL k cells slots pc L (.int y :: .int x :: st) ws := by
  obtain ⟨p, l, e, R, s, m, args, below, meth, c, Q, A⟩ := k
  exact fun H locs ls h1 h2 h3 h4 => lv_imul F.1.1 F.1.2.1 d (kk H locs ls h1 h2 h3 h4)
theorem G_iand (F : GF k l R cc nL own D cB cI cJ) {x y : Int32} (d : decode cc pc = .ok (.iand, 1)) (kk : G D nL k cells slots (pc + 1) L (.int (x &&& y) :: st) ws) : G D nL k cells slots pc L (.int y :: .int x :: st) ws := by
  obtain ⟨p, l, e, R, s, m, args, below, meth, c, Q, A⟩ := k
  exact fun H locs ls h1 h2 h3 h4 => lv_iand F.1.1 F.1.2.1 d (kk H locs ls h1 h2 h3 h4)
theorem G_ior (F : GF k l R cc nL own D cB cI cJ) {x y : Int32} (d : decode cc pc = .ok (.ior, 1)) (kk : G D nL k cells slots (pc + 1) L (.int (x ||| y) :: st) ws) : G D nL k cells slots pc L (.int y :: .int x :: st) ws := by
  obtain ⟨p, l, e, R, s, m, args, below, meth, c, Q, A⟩ := k
  exact fun H locs ls h1 h2 h3 h4 => lv_ior F.1.1 F.1.2.1 d (kk H locs ls h1 h2 h3 h4)
theorem G_ixor (F : GF k l R cc nL own D cB cI cJ) {x y : Int32} (d : decode cc pc = .ok (.ixor, 1)) (kk : G D nL k cells slots (pc + 1) L (.int (x ^^^ y) :: st) ws) : G D nL k cells slots pc L (.int y :: .int x :: st) ws := by
  obtain ⟨p, l, e, R, s, m, args, below, meth, c, Q, A⟩ := k
  exact fun H locs ls h1 h2 h3 h4 => lv_ixor F.1.1 F.1.2.1 d (kk H locs ls h1 h2 h3 h4)
theorem G_ishl (F : GF k l R cc nL own D cB cI cJ) {x y : Int32} (d : decode cc pc = .ok (.ishl, 1)) (kk : G D nL k cells slots (pc + 1) L (.int (x <<< (y &&& 31)) :: st) ws) : G D nL k cells slots pc L (.int y :: .int x :: st) ws := by
  obtain ⟨p, l, e, R, s, m, args, below, meth, c, Q, A⟩ := k
  exact fun H locs ls h1 h2 h3 h4 => lv_ishl F.1.1 F.1.2.1 d (kk H locs ls h1 h2 h3 h4)
theorem G_ishr (F : GF k l R cc nL own D cB cI cJ) {x y : Int32} (d : decode cc pc = .ok (.ishr, 1)) (kk : G D nL k cells slots (pc + 1) L (.int (x >>> (y &&& 31)) :: st) ws) : G D nL k cells slots pc L (.int y :: .int x :: st) ws := by
  obtain ⟨p, l, e, R, s, m, args, below, meth, c, Q, A⟩ := k
  exact fun H locs ls h1 h2 h3 h4 => lv_ishr F.1.1 F.1.2.1 d (kk H locs ls h1 h2 h3 h4)
theorem G_ladd (F : GF k l R cc nL own D cB cI cJ) {x y : Int64} (d : decode cc pc = .ok (.ladd, 1)) (kk : G D nL k cells slots (pc + 1) L (.long (x + y) :: st) ws) : G D nL k cells slots pc L (.long y :: .long x :: st) ws := by
  obtain ⟨p, l, e, R, s, m, args, below, meth, c, Q, A⟩ := k
  exact fun H locs ls h1 h2 h3 h4 => lv_ladd F.1.1 F.1.2.1 d (kk H locs ls h1 h2 h3 h4)
theorem G_land (F : GF k l R cc nL own D cB cI cJ) {x y : Int64} (d : decode cc pc = .ok (.land, 1)) (kk : G D nL k cells slots (pc + 1) L (.long (x &&& y) :: st) ws) : G D nL k cells slots pc L (.long y :: .long x :: st) ws := by
  obtain ⟨p, l, e, R, s, m, args, below, meth, c, Q, A⟩ := k
  exact fun H locs ls h1 h2 h3 h4 => lv_land F.1.1 F.1.2.1 d (kk H locs ls h1 h2 h3 h4)
theorem G_lor (F : GF k l R cc nL own D cB cI cJ) {x y : Int64} (d : decode cc pc = .ok (.lor, 1)) (kk : G D nL k cells slots (pc + 1) L (.long (x ||| y) :: st) ws) : G D nL k cells slots pc L (.long y :: .long x :: st) ws := by
  obtain ⟨p, l, e, R, s, m, args, below, meth, c, Q, A⟩ := k
  exact fun H locs ls h1 h2 h3 h4 => lv_lor F.1.1 F.1.2.1 d (kk H locs ls h1 h2 h3 h4)
theorem G_idiv (F : GF k l R cc nL own D cB cI cJ) {x y : Int32} (d : decode cc pc = .ok (.idiv, 1)) (hne : ¬ y = 0) (kk : G D nL k cells slots (pc + 1) L (.int (x / y) :: st) ws) : G D nL k cells slots pc L (.int y :: .int x :: st) ws := by
  obtain ⟨p, l, e, R, s, m, args, below, meth, c, Q, A⟩ := k
  exact fun H locs ls h1 h2 h3 h4 => lv_idiv F.1.1 F.1.2.1 d hne (kk H locs ls h1 h2 h3 h4)
theorem G_iushr (F : GF k l R cc nL own D cB cI cJ) {x y : Int32} (d : decode cc pc = .ok (.iushr, 1)) (kk : G D nL k cells slots (pc + 1) L (.int (ush x y) :: st) ws) : G D nL k cells slots pc L (.int y :: .int x :: st) ws := by
  obtain ⟨p, l, e, R, s, m, args, below, meth, c, Q, A⟩ := k
  exact fun H locs ls h1 h2 h3 h4 => lv_iushr F.1.1 F.1.2.1 d rfl (kk H locs ls h1 h2 h3 h4)
theorem G_lshl (F : GF k l R cc nL own D cB cI cJ) {x : Int64} {y : Int32} (d : decode cc pc = .ok (.lshl, 1)) (kk : G D nL k cells slots (pc + 1) L (.long (lshl x y) :: st) ws) : G D nL k cells slots pc L (.int y :: .long x :: st) ws := by
  obtain ⟨p, l, e, R, s, m, args, below, meth, c, Q, A⟩ := k
  exact fun H locs ls h1 h2 h3 h4 => lv_lshl F.1.1 F.1.2.1 d rfl (kk H locs ls h1 h2 h3 h4)
theorem G_lshr (F : GF k l R cc nL own D cB cI cJ) {x : Int64} {y : Int32} (d : decode cc pc = .ok (.lshr, 1)) (kk : G D nL k cells slots (pc + 1) L (.long (lshr x y) :: st) ws) : G D nL k cells slots pc L (.int y :: .long x :: st) ws := by
  obtain ⟨p, l, e, R, s, m, args, below, meth, c, Q, A⟩ := k
  exact fun H locs ls h1 h2 h3 h4 => lv_lshr F.1.1 F.1.2.1 d rfl (kk H locs ls h1 h2 h3 h4)
theorem G_lushr (F : GF k l R cc nL own D cB cI cJ) {x : Int64} {y : Int32} (d : decode cc pc = .ok (.lushr, 1)) (kk : G D nL k cells slots (pc + 1) L (.long (lush x y) :: st) ws) : G D nL k cells slots pc L (.int y :: .long x :: st) ws := by
  obtain ⟨p, l, e, R, s, m, args, below, meth, c, Q, A⟩ := k
  exact fun H locs ls h1 h2 h3 h4 => lv_lushr F.1.1 F.1.2.1 d rfl (kk H locs ls h1 h2 h3 h4)
theorem G_i2b (F : GF k l R cc nL own D cB cI cJ) {x : Int32} (d : decode cc pc = .ok (.i2b, 1)) (kk : G D nL k cells slots (pc + 1) L (.int x.toInt8.toInt32 :: st) ws) : G D nL k cells slots pc L (.int x :: st) ws := by
  obtain ⟨p, l, e, R, s, m, args, below, meth, c, Q, A⟩ := k
  exact fun H locs ls h1 h2 h3 h4 => lv_i2b F.1.1 F.1.2.1 d rfl (kk H locs ls h1 h2 h3 h4)
theorem G_i2l (F : GF k l R cc nL own D cB cI cJ) {x : Int32} (d : decode cc pc = .ok (.i2l, 1)) (kk : G D nL k cells slots (pc + 1) L (.long x.toInt64 :: st) ws) : G D nL k cells slots pc L (.int x :: st) ws := by
  obtain ⟨p, l, e, R, s, m, args, below, meth, c, Q, A⟩ := k
  exact fun H locs ls h1 h2 h3 h4 => lv_i2l F.1.1 F.1.2.1 d rfl (kk H locs ls h1 h2 h3 h4)
theorem G_l2i (F : GF k l R cc nL own D cB cI cJ) {x : Int64} (d : decode cc pc = .ok (.l2i, 1)) (kk : G D nL k cells slots (pc + 1) L (.int x.toInt32 :: st) ws) : G D nL k cells slots pc L (.long x :: st) ws := by
  obtain ⟨p, l, e, R, s, m, args, below, meth, c, Q, A⟩ := k
  exact fun H locs ls h1 h2 h3 h4 => lv_l2i F.1.1 F.1.2.1 d rfl (kk H locs ls h1 h2 h3 h4)
theorem G_lcmp (F : GF k l R cc nL own D cB cI cJ) {x y : Int64} (d : decode cc pc = .ok (.lcmp, 1)) (kk : G D nL k cells slots (pc + 1) L (.int (lg_cmp x y) :: st) ws) : G D nL k cells slots pc L (.long y :: .long x :: st) ws := by
  obtain ⟨p, l, e, R, s, m, args, below, meth, c, Q, A⟩ := k
  exact fun H locs ls h1 h2 h3 h4 => W.lcmp F.1.1 F.1.2.1 d (kk H locs ls h1 h2 h3 h4)
theorem G_dup (F : GF k l R cc nL own D cB cI cJ) {v : Value} (d : decode cc pc = .ok (.dup, 1)) (hv : v.category = 1) (kk : G D nL k cells slots (pc + 1) L (v :: v :: st) ws) : G D nL k cells slots pc L (v :: st) ws := by
  obtain ⟨p, l, e, R, s, m, args, below, meth, c, Q, A⟩ := k
  exact fun H locs ls h1 h2 h3 h4 => lv_dup F.1.1 F.1.2.1 d hv (kk H locs ls h1 h2 h3 h4)
theorem G_pop (F : GF k l R cc nL own D cB cI cJ) {v : Value} (d : decode cc pc = .ok (.pop, 1)) (hv : v.category = 1) (kk : G D nL k cells slots (pc + 1) L st ws) : G D nL k cells slots pc L (v :: st) ws := by
  obtain ⟨p, l, e, R, s, m, args, below, meth, c, Q, A⟩ := k
  exact fun H locs ls h1 h2 h3 h4 => lv_pop F.1.1 F.1.2.1 d hv (kk H locs ls h1 h2 h3 h4)
theorem G_dup2 (F : GF k l R cc nL own D cB cI cJ) {v w : Value} (d : decode cc pc = .ok (.dup2, 1)) (hv : v.category = 1) (hw : w.category = 1) (kk : G D nL k cells slots (pc + 1) L (v :: w :: v :: w :: st) ws) : G D nL k cells slots pc L (v :: w :: st) ws := by
  obtain ⟨p, l, e, R, s, m, args, below, meth, c, Q, A⟩ := k
  exact fun H locs ls h1 h2 h3 h4 => lv_dup2_11 F.1.1 F.1.2.1 d hv hw (kk H locs ls h1 h2 h3 h4)
theorem G_goto (F : GF k l R cc nL own D cB cI cJ) {off : Int} {tgt : Nat} (d : decode cc pc = .ok (.goto off, 3)) (ht : (pc : Int) + off = (tgt : Int)) (kk : G D nL k cells slots tgt L st ws) : G D nL k cells slots pc L st ws := by
  obtain ⟨p, l, e, R, s, m, args, below, meth, c, Q, A⟩ := k
  exact fun H locs ls h1 h2 h3 h4 => lv_goto F.1.1 F.1.2.1 d ht (kk H locs ls h1 h2 h3 h4)
theorem G_icmp_eq (F : GF k l R cc nL own D cB cI cJ) {x y : Int32} {off : Int} {tgt : Nat} (d : decode cc pc = .ok (.if_icmp .eq off, 3)) (ht : (pc : Int) + off = (tgt : Int)) (kt : x = y → G D nL k cells slots tgt L st ws) (kf : ¬ x = y → G D nL k cells slots (pc + 3) L st ws) : G D nL k cells slots pc L (.int y :: .int x :: st) ws := by
  obtain ⟨p, l, e, R, s, m, args, below, meth, c, Q, A⟩ := k
  exact fun H locs ls h1 h2 h3 h4 => lv_icmp_eq F.1.1 F.1.2.1 d ht (fun z => kt z H locs ls h1 h2 h3 h4) (fun z => kf z H locs ls h1 h2 h3 h4)
theorem G_if_eq (F : GF k l R cc nL own D cB cI cJ) {x : Int32} {off : Int} {tgt : Nat} (d : decode cc pc = .ok (.ifCond .eq off, 3)) (ht : (pc : Int) + off = (tgt : Int)) (kt : x = 0 → G D nL k cells slots tgt L st ws) (kf : ¬ x = 0 → G D nL k cells slots (pc + 3) L st ws) : G D nL k cells slots pc L (.int x :: st) ws := by
  obtain ⟨p, l, e, R, s, m, args, below, meth, c, Q, A⟩ := k
  exact fun H locs ls h1 h2 h3 h4 => lv_if_eq F.1.1 F.1.2.1 d ht (fun z => kt z H locs ls h1 h2 h3 h4) (fun z => kf z H locs ls h1 h2 h3 h4)
theorem G_icmp_ne (F : GF k l R cc nL own D cB cI cJ) {x y : Int32} {off : Int} {tgt : Nat} (d : decode cc pc = .ok (.if_icmp .ne off, 3)) (ht : (pc : Int) + off = (tgt : Int)) (kt : ¬ x = y → G D nL k cells slots tgt L st ws) (kf : x = y → G D nL k cells slots (pc + 3) L st ws) : G D nL k cells slots pc L (.int y :: .int x :: st) ws := by
  obtain ⟨p, l, e, R, s, m, args, below, meth, c, Q, A⟩ := k
  exact fun H locs ls h1 h2 h3 h4 => lv_icmp_ne F.1.1 F.1.2.1 d ht (fun z => kt z H locs ls h1 h2 h3 h4) (fun z => kf z H locs ls h1 h2 h3 h4)
theorem G_if_ne (F : GF k l R cc nL own D cB cI cJ) {x : Int32} {off : Int} {tgt : Nat} (d : decode cc pc = .ok (.ifCond .ne off, 3)) (ht : (pc : Int) + off = (tgt : Int)) (kt : ¬ x = 0 → G D nL k cells slots tgt L st ws) (kf : x = 0 → G D nL k cells slots (pc + 3) L st ws) : G D nL k cells slots pc L (.int x :: st) ws := by
  obtain ⟨p, l, e, R, s, m, args, below, meth, c, Q, A⟩ := k
  exact fun H locs ls h1 h2 h3 h4 => lv_if_ne F.1.1 F.1.2.1 d ht (fun z => kt z H locs ls h1 h2 h3 h4) (fun z => kf z H locs ls h1 h2 h3 h4)
theorem G_icmp_lt (F : GF k l R cc nL own D cB cI cJ) {x y : Int32} {off : Int} {tgt : Nat} (d : decode cc pc = .ok (.if_icmp .lt off, 3)) (ht : (pc : Int) + off = (tgt : Int)) (kt : x < y → G D nL k cells slots tgt L st ws) (kf : ¬ x < y → G D nL k cells slots (pc + 3) L st ws) : G D nL k cells slots pc L (.int y :: .int x :: st) ws := by
  obtain ⟨p, l, e, R, s, m, args, below, meth, c, Q, A⟩ := k
  exact fun H locs ls h1 h2 h3 h4 => lv_icmp_lt F.1.1 F.1.2.1 d ht (fun z => kt z H locs ls h1 h2 h3 h4) (fun z => kf z H locs ls h1 h2 h3 h4)
theorem G_if_lt (F : GF k l R cc nL own D cB cI cJ) {x : Int32} {off : Int} {tgt : Nat} (d : decode cc pc = .ok (.ifCond .lt off, 3)) (ht : (pc : Int) + off = (tgt : Int)) (kt : x < 0 → G D nL k cells slots tgt L st ws) (kf : ¬ x < 0 → G D nL k cells slots (pc + 3) L st ws) : G D nL k cells slots pc L (.int x :: st) ws := by
  obtain ⟨p, l, e, R, s, m, args, below, meth, c, Q, A⟩ := k
  exact fun H locs ls h1 h2 h3 h4 => lv_if_lt F.1.1 F.1.2.1 d ht (fun z => kt z H locs ls h1 h2 h3 h4) (fun z => kf z H locs ls h1 h2 h3 h4)
theorem G_icmp_ge (F : GF k l R cc nL own D cB cI cJ) {x y : Int32} {off : Int} {tgt : Nat} (d : decode cc pc = .ok (.if_icmp .ge off, 3)) (ht : (pc : Int) + off = (tgt : Int)) (kt : y ≤ x → G D nL k cells slots tgt L st ws) (kf : ¬ y ≤ x → G D nL k cells slots (pc + 3) L st ws) : G D nL k cells slots pc L (.int y :: .int x :: st) ws := by
  obtain ⟨p, l, e, R, s, m, args, below, meth, c, Q, A⟩ := k
  exact fun H locs ls h1 h2 h3 h4 => lv_icmp_ge F.1.1 F.1.2.1 d ht (fun z => kt z H locs ls h1 h2 h3 h4) (fun z => kf z H locs ls h1 h2 h3 h4)
theorem G_if_ge (F : GF k l R cc nL own D cB cI cJ) {x : Int32} {off : Int} {tgt : Nat} (d : decode cc pc = .ok (.ifCond .ge off, 3)) (ht : (pc : Int) + off = (tgt : Int)) (kt : 0 ≤ x → G D nL k cells slots tgt L st ws) (kf : ¬ 0 ≤ x → G D nL k cells slots (pc + 3) L st ws) : G D nL k cells slots pc L (.int x :: st) ws := by
  obtain ⟨p, l, e, R, s, m, args, below, meth, c, Q, A⟩ := k
  exact fun H locs ls h1 h2 h3 h4 => lv_if_ge F.1.1 F.1.2.1 d ht (fun z => kt z H locs ls h1 h2 h3 h4) (fun z => kf z H locs ls h1 h2 h3 h4)
theorem G_icmp_gt (F : GF k l R cc nL own D cB cI cJ) {x y : Int32} {off : Int} {tgt : Nat} (d : decode cc pc = .ok (.if_icmp .gt off, 3)) (ht : (pc : Int) + off = (tgt : Int)) (kt : y < x → G D nL k cells slots tgt L st ws) (kf : ¬ y < x → G D nL k cells slots (pc + 3) L st ws) : G D nL k cells slots pc L (.int y :: .int x :: st) ws := by
  obtain ⟨p, l, e, R, s, m, args, below, meth, c, Q, A⟩ := k
  exact fun H locs ls h1 h2 h3 h4 => lv_icmp_gt F.1.1 F.1.2.1 d ht (fun z => kt z H locs ls h1 h2 h3 h4) (fun z => kf z H locs ls h1 h2 h3 h4)
theorem G_if_gt (F : GF k l R cc nL own D cB cI cJ) {x : Int32} {off : Int} {tgt : Nat} (d : decode cc pc = .ok (.ifCond .gt off, 3)) (ht : (pc : Int) + off = (tgt : Int)) (kt : 0 < x → G D nL k cells slots tgt L st ws) (kf : ¬ 0 < x → G D nL k cells slots (pc + 3) L st ws) : G D nL k cells slots pc L (.int x :: st) ws := by
  obtain ⟨p, l, e, R, s, m, args, below, meth, c, Q, A⟩ := k
  exact fun H locs ls h1 h2 h3 h4 => lv_if_gt F.1.1 F.1.2.1 d ht (fun z => kt z H locs ls h1 h2 h3 h4) (fun z => kf z H locs ls h1 h2 h3 h4)
theorem G_icmp_le (F : GF k l R cc nL own D cB cI cJ) {x y : Int32} {off : Int} {tgt : Nat} (d : decode cc pc = .ok (.if_icmp .le off, 3)) (ht : (pc : Int) + off = (tgt : Int)) (kt : x ≤ y → G D nL k cells slots tgt L st ws) (kf : ¬ x ≤ y → G D nL k cells slots (pc + 3) L st ws) : G D nL k cells slots pc L (.int y :: .int x :: st) ws := by
  obtain ⟨p, l, e, R, s, m, args, below, meth, c, Q, A⟩ := k
  exact fun H locs ls h1 h2 h3 h4 => lv_icmp_le F.1.1 F.1.2.1 d ht (fun z => kt z H locs ls h1 h2 h3 h4) (fun z => kf z H locs ls h1 h2 h3 h4)
theorem G_if_le (F : GF k l R cc nL own D cB cI cJ) {x : Int32} {off : Int} {tgt : Nat} (d : decode cc pc = .ok (.ifCond .le off, 3)) (ht : (pc : Int) + off = (tgt : Int)) (kt : x ≤ 0 → G D nL k cells slots tgt L st ws) (kf : ¬ x ≤ 0 → G D nL k cells slots (pc + 3) L st ws) : G D nL k cells slots pc L (.int x :: st) ws := by
  obtain ⟨p, l, e, R, s, m, args, below, meth, c, Q, A⟩ := k
  exact fun H locs ls h1 h2 h3 h4 => lv_if_le F.1.1 F.1.2.1 d ht (fun z => kt z H locs ls h1 h2 h3 h4) (fun z => kf z H locs ls h1 h2 h3 h4)
theorem G_iaload (F : GF k l R cc nL own D cB cI cJ) {q a n : Nat} {f : Nat → Int32} {i : Int32} (d : decode cc pc = .ok (.iaload, 1)) (ha : ws[q]? = some (a, .inl (cI, n, .inl f))) (hin : ¬ (i < 0 ∨ n ≤ i.toNatClampNeg)) (kk : G D nL k cells slots (pc + 1) L (.int (f i.toNatClampNeg) :: st) ws) : G D nL k cells slots pc L (.int i :: .ref a :: st) ws := by
  obtain ⟨p, l, e, R, s, m, args, below, meth, c, Q, A⟩ := k
  exact fun H locs ls h1 h2 h3 h4 => va_iald F.1.1 F.1.2.1 F.2.1 h2 q 1 ha rfl hin d (kk H locs ls h1 h2 h3 h4)
theorem G_baload (F : GF k l R cc nL own D cB cI cJ) {q a n : Nat} {f : Nat → Int32} {i : Int32} (d : decode cc pc = .ok (.baload, 1)) (ha : ws[q]? = some (a, .inl (cB, n, .inl f))) (hin : ¬ (i < 0 ∨ n ≤ i.toNatClampNeg)) (kk : G D nL k cells slots (pc + 1) L (.int (f i.toNatClampNeg) :: st) ws) : G D nL k cells slots pc L (.int i :: .ref a :: st) ws := by
  obtain ⟨p, l, e, R, s, m, args, below, meth, c, Q, A⟩ := k
  exact fun H locs ls h1 h2 h3 h4 => va_bald F.1.1 F.1.2.1 F.2.1 h2 q 0 ha rfl hin d (kk H locs ls h1 h2 h3 h4)
theorem G_laload (F : GF k l R cc nL own D cB cI cJ) {q a n : Nat} {f : Nat → Int64} {i : Int32} (d : decode cc pc = .ok (.laload, 1)) (ha : ws[q]? = some (a, .inl (cJ, n, .inr (.inl f)))) (hin : ¬ (i < 0 ∨ n ≤ i.toNatClampNeg)) (kk : G D nL k cells slots (pc + 1) L (.long (f i.toNatClampNeg) :: st) ws) : G D nL k cells slots pc L (.int i :: .ref a :: st) ws := by
  obtain ⟨p, l, e, R, s, m, args, below, meth, c, Q, A⟩ := k
  exact fun H locs ls h1 h2 h3 h4 => va_lald F.1.1 F.1.2.1 F.2.1 h2 q 2 ha rfl hin d (kk H locs ls h1 h2 h3 h4)
theorem G_iastore (F : GF k l R cc nL own D cB cI cJ) {q a n : Nat} {f f' : Nat → Int32} {i : Int32} {x : Int32} (d : decode cc pc = .ok (.iastore, 1)) (ha : ws[q]? = some (a, .inl (cI, n, .inl f))) (hin : ¬ (i < 0 ∨ n ≤ i.toNatClampNeg)) (hf : f' = upd f i.toNatClampNeg x) (hw : ws.set q (a, .inl (cI, n, .inl f')) = ws') (kk : G D nL k cells slots (pc + 1) L st ws') : G D nL k cells slots pc L (.int x :: .int i :: .ref a :: st) ws := by
  obtain ⟨p, l, e, R, s, m, args, below, meth, c, Q, A⟩ := k
  subst hf
  subst hw
  exact fun H locs ls h1 h2 h3 h4 => va_iast F.1.1 F.1.2.1 F.2.1 h2 h3 h4 q 1 ha rfl hin d (fun H1 locs1 g2 g3 g4 => kk H1 locs1 ls h1 g2 g3 g4)
theorem G_bastore (F : GF k l R cc nL own D cB cI cJ) {q a n : Nat} {f f' : Nat → Int32} {i : Int32} {x : Int32} (d : decode cc pc = .ok (.bastore, 1)) (ha : ws[q]? = some (a, .inl (cB, n, .inl f))) (hin : ¬ (i < 0 ∨ n ≤ i.toNatClampNeg)) (hf : f' = upd f i.toNatClampNeg (vp_nar .byte x)) (hw : ws.set q (a, .inl (cB, n, .inl f')) = ws') (kk : G D nL k cells slots (pc + 1) L st ws') : G D nL k cells slots pc L (.int x :: .int i :: .ref a :: st) ws := by
  obtain ⟨p, l, e, R, s, m, args, below, meth, c, Q, A⟩ := k
  subst hf
  subst hw
  exact fun H locs ls h1 h2 h3 h4 => va_bast F.1.1 F.1.2.1 F.2.1 h2 h3 h4 q 0 ha rfl hin d (fun H1 locs1 g2 g3 g4 => kk H1 locs1 ls h1 g2 g3 g4)
theorem G_lastore (F : GF k l R cc nL own D cB cI cJ) {q a n : Nat} {f f' : Nat → Int64} {i : Int32} {x : Int64} (d : decode cc pc = .ok (.lastore, 1)) (ha : ws[q]? = some (a, .inl (cJ, n, .inr (.inl f)))) (hin : ¬ (i < 0 ∨ n ≤ i.toNatClampNeg)) (hf : f' = vp_updL f i.toNatClampNeg x) (hw : ws.set q (a, .inl (cJ, n, .inr (.inl f'))) = ws') (kk : G D nL k cells slots (pc + 1) L st ws') : G D nL k cells slots pc L (.long x :: .int i :: .ref a :: st) ws := by
  obtain ⟨p, l, e, R, s, m, args, below, meth, c, Q, A⟩ := k
  subst hf
  subst hw
  exact fun H locs ls h1 h2 h3 h4 => va_last F.1.1 F.1.2.1 F.2.1 h2 h3 h4 q 2 ha rfl hin d (fun H1 locs1 g2 g3 g4 => kk H1 locs1 ls h1 g2 g3 g4)
theorem G_alenB (F : GF k l R cc nL own D cB cI cJ) {q a : Nat} {x : vp_A} (d : decode cc pc = .ok (.arraylength, 1)) (ha : ws[q]? = some (a, .inl (cB, x))) (kk : G D nL k cells slots (pc + 1) L (.int (Int32.ofNat x.1) :: st) ws) : G D nL k cells slots pc L (.ref a :: st) ws := by
  obtain ⟨p, l, e, R, s, m, args, below, meth, c, Q, A⟩ := k
  exact fun H locs ls h1 h2 h3 h4 => va_alen F.1.1 F.1.2.1 F.2.1 h2 q 0 ha rfl rfl d (kk H locs ls h1 h2 h3 h4)
theorem G_alenI (F : GF k l R cc nL own D cB cI cJ) {q a : Nat} {x : vp_A} (d : decode cc pc = .ok (.arraylength, 1)) (ha : ws[q]? = some (a, .inl (cI, x))) (kk : G D nL k cells slots (pc + 1) L (.int (Int32.ofNat x.1) :: st) ws) : G D nL k cells slots pc L (.ref a :: st) ws := by
  obtain ⟨p, l, e, R, s, m, args, below, meth, c, Q, A⟩ := k
  exact fun H locs ls h1 h2 h3 h4 => va_alen F.1.1 F.1.2.1 F.2.1 h2 q 1 ha rfl rfl d (kk H locs ls h1 h2 h3 h4)
theorem G_alenJ (F : GF k l R cc nL own D cB cI cJ) {q a : Nat} {x : vp_A} (d : decode cc pc = .ok (.arraylength, 1)) (ha : ws[q]? = some (a, .inl (cJ, x))) (kk : G D nL k cells slots (pc + 1) L (.int (Int32.ofNat x.1) :: st) ws) : G D nL k cells slots pc L (.ref a :: st) ws := by
  obtain ⟨p, l, e, R, s, m, args, below, meth, c, Q, A⟩ := k
  exact fun H locs ls h1 h2 h3 h4 => va_alen F.1.1 F.1.2.1 F.2.1 h2 q 2 ha rfl rfl d (kk H locs ls h1 h2 h3 h4)
def FA (own : String) (index ci j : Nat) (C : String) (T : u_T) (N : Nat) : Prop := (∀ w ∈ u_ws C T N, w ∈ AW) ∧ zCl[ci]? = some (C, T, N) ∧ j < N ∧ ∃ ref : String, (Cond.fieldLink own index ref (T j).2.1 (T j).2.2.1 ∈ AW ∨ ∃ host : String, Cond.fieldLinkNest own index ref (T j).2.1 (T j).2.2.1 host ∈ NW) ∧ (ref = (T j).1 ∨ Cond.sameField ref (T j).1 (T j).2.1 (T j).2.2.1 ∈ AW)
theorem FA_same {T : u_T} {j : Nat} {ref : String} {ar : Array Value} {s : State} (hts : ∀ w ∈ AW, w.before ar s = true) (h : ref = (T j).1 ∨ Cond.sameField ref (T j).1 (T j).2.1 (T j).2.2.1 ∈ AW) : ∀ x, s.fieldFound? (T j).1 (T j).2.1 (T j).2.2.1 = some x → s.fieldFound? ref (T j).2.1 (T j).2.2.1 = some x := by
  rcases h with h | h
  · subst h; exact fun _ h => h
  · exact fun x hx => u_same (hts _ h) x hx
theorem G_get (F : GF k l R cc nL own D cB cI cJ) {index ci j : Nat} {C : String} {T : u_T} {N : Nat} (fa : FA own index ci j C T N) {q a : Nat} {fs : List Value} {v : Value} (d : decode cc pc = .ok (.getfield index, 3)) (he : ws[q]? = some (a, .inr (ci, fs))) (hv : fs[j]? = some v) (kk : G D nL k cells slots (pc + 3) L (v :: st) ws) : G D nL k cells slots pc L (.ref a :: st) ws := by
  obtain ⟨p, l0, e, R0, s, m, args, below, meth, c, Q, A⟩ := k
  obtain ⟨hin, hc, hj, ref, hl, hs⟩ := fa
  obtain ⟨⟨hx, hb, hml, hown, hts⟩, hK, hN, -⟩ := F
  rcases hl with hl | ⟨host, hl⟩
  · exact fun H locs ls h1 h2 h3 h4 => va_get hx hb hts hin hown hK h2 q he hc j hj (hts _ hl) (FA_same hts hs) hv d (kk H locs ls h1 h2 h3 h4)
  · exact fun H locs ls h1 h2 h3 h4 => va_getN hx hb hts hin hown hK h2 q he hc j hj (va_Nw.use rfl (hN _ hl)) (FA_same hts hs) hv d (kk H locs ls h1 h2 h3 h4)
def FP (own : String) (index ci j : Nat) (C : String) (T : u_T) (N : Nat) : Prop := FA own index ci j C T N ∧ (∃ ty0 : Nat → FieldType, ∀ k, k < N → parseFieldDescriptor (T k).2.2.1 = some (ty0 k)) ∧ (∀ a, a < N → ∀ b, b < N → a ≠ b → (T a).2.1 ≠ (T b).2.1) ∧ (T j).2.2.2 = false ∧ parseFieldDescriptor (T j).2.2.1 = some .int
theorem G_put (F : GF k l R cc nL own D cB cI cJ) {index ci j : Nat} {C : String} {T : u_T} {N : Nat} (fp : FP own index ci j C T N) {q a : Nat} {fs : List Value} {v : Int32} (d : decode cc pc = .ok (.putfield index, 3)) (he : ws[q]? = some (a, .inr (ci, fs))) (hl : j < fs.length) (hw : ws.set q (a, .inr (ci, fs.set j (.int v))) = ws') (kk : G D nL k cells slots (pc + 3) L st ws') : G D nL k cells slots pc L (.int v :: .ref a :: st) ws := by
  obtain ⟨p, l0, e, R0, s, m, args, below, meth, c, Q, A⟩ := k
  obtain ⟨⟨hin, hc, hj, ref, hlk, hs⟩, ⟨ty0, hty⟩, hnm, hfin, hd⟩ := fp
  obtain ⟨⟨hx, hb, hml, hown, hts⟩, hK, hN, -⟩ := F
  subst hw
  rcases hlk with hk | ⟨host, hk⟩
  · exact fun H locs ls h1 h2 h3 h4 => va_put hx hb hts hin ty0 hty hnm hown hK h2 h3 h4 q he hc j hj (hts _ hk) (FA_same hts hs) hfin hd rfl rfl hl d (fun H1 locs1 g2 g3 g4 => kk H1 locs1 ls h1 g2 g3 g4)
  · exact fun H locs ls h1 h2 h3 h4 => va_putN hx hb hts hin ty0 hty hnm hown hK h2 h3 h4 q he hc j hj (va_Nw.use rfl (hN _ hk)) (FA_same hts hs) hfin hd rfl rfl hl d (fun H1 locs1 g2 g3 g4 => kk H1 locs1 ls h1 g2 g3 g4)
end GR
def setsW : va_W → List Nat → va_W → va_W
  | ws, [], _ => ws
  | ws, _ :: _, [] => ws
  | ws, i :: is, c :: cs => setsW (ws.set i c) is cs
theorem setsW_at : ∀ (is : List Nat) (cs ws : va_W) (k : Nat) (q : Nat × va_E), is.length = cs.length → (setsW ws is cs)[k]? = some q → (∃ j : Nat, cs[j]? = some q ∧ is[j]? = some k) ∨ (ws[k]? = some q ∧ k ∉ is)
  | [], cs, ws, k, q, _, h => Or.inr ⟨by simpa [setsW] using h, by simp⟩
  | i :: is, [], ws, k, q, hl, h => by simp at hl
  | i :: is, c :: cs, ws, k, q, hl, h => by
    have h1 : (setsW (ws.set i c) is cs)[k]? = some q := h
    rcases setsW_at is cs (ws.set i c) k q (by simpa using hl) h1 with ⟨j, a, b⟩ | ⟨a, b⟩
    · exact Or.inl ⟨j + 1, by simpa using a, by simpa using b⟩
    · by_cases hk : k = i
      · subst hk
        have hlt : k < ws.length := by
          have := (List.getElem?_eq_some_iff.mp a).1
          simpa using this
        rw [List.getElem?_set_self hlt] at a
        exact Or.inl ⟨0, by simpa using a, by simp⟩
      · rw [List.getElem?_set_ne (Ne.symm hk)] at a
        exact Or.inr ⟨a, by simp [hk, b]⟩
theorem map_at {f : Nat → Option (Nat × va_E)} {is : List Nat} {w : va_W} (h : is.map f = w.map some) {j : Nat} {q : Nat × va_E} (hq : w[j]? = some q) : ∃ i, is[j]? = some i ∧ f i = some q := by
  have h1 : (is.map f)[j]? = some (some q) := by rw [h, List.getElem?_map, hq]; rfl
  rw [List.getElem?_map] at h1
  cases hi : is[j]? with
  | none => rw [hi] at h1; cases h1
  | some i => rw [hi] at h1; exact ⟨i, rfl, Option.some.inj h1⟩
theorem map_fm {f : Nat → Option (Nat × va_E)} : ∀ {is : List Nat} {w : va_W}, is.map f = w.map some → is.filterMap f = w
  | [], [], _ => rfl
  | [], _ :: _, h => by simp at h
  | _ :: _, [], h => by simp at h
  | i :: is, q :: w, h => by
    simp only [List.map_cons, List.cons.injEq] at h
    rw [List.filterMap_cons, h.1, map_fm h.2]
theorem wj {A0 : Nat → Prop} {D : va_G} {cl : List vw_C} {ws w0 w1 ws' : va_W} {H H1 : Heap} (hP : va_P D cl ws H) (hD : va_D A0 ws) (isC : List Nat) (hC : isC.map (fun i => ws[i]?) = w0.map some) (ha : w1.map Prod.fst = w0.map Prod.fst) (hw : setsW ws isC w1 = ws') (hk : ∀ q : Nat, q < H.size → ¬ va_A w0 H.size q → H1[q]? = H[q]?) (hP1 : va_P D cl w1 H1) : va_P D cl ws' H1 ∧ va_D A0 ws' := by
  have l0 : isC.length = w0.length := by have := congrArg List.length hC; simpa using this
  have l1 : w1.length = w0.length := by have := congrArg List.length ha; simpa using this
  subst hw
  have key : ∀ (k : Nat) (q : Nat × va_E), (setsW ws isC w1)[k]? = some q → ∃ q0, ws[k]? = some q0 ∧ q0.1 = q.1 := by
    intro k q hq
    rcases setsW_at isC w1 ws k q (l0.trans l1.symm) hq with ⟨j, a, b⟩ | ⟨a, -⟩
    · have h1 : (w0.map Prod.fst)[j]? = some q.1 := by rw [← ha, List.getElem?_map, a]; rfl
      rw [List.getElem?_map] at h1
      cases h0 : w0[j]? with
      | none => rw [h0] at h1; cases h1
      | some q0 =>
        rw [h0] at h1
        obtain ⟨i, h2, h3⟩ := map_at hC h0
        rw [b] at h2
        cases h2
        exact ⟨q0, h3, Option.some.inj h1⟩
    · exact ⟨q, a, rfl⟩
  refine ⟨fun k q hq => ?_, fun i j x y hi hj hxy => ?_, fun k q hq => ?_⟩
  · rcases setsW_at isC w1 ws k q (l0.trans l1.symm) hq with ⟨j, a, b⟩ | ⟨a, b⟩
    · exact hP1 j q a
    · refine (hP k q a).kept (hk q.1 (hP k q a).lt ?_)
      rintro (⟨j, e, h⟩ | h)
      · obtain ⟨i, h2, h3⟩ := map_at hC h
        have := hD.1 k i q (q.1, e) a h3 rfl
        subst this
        exact b (List.mem_of_getElem? h2)
      · exact absurd (hP k q a).lt (by omega)
  · obtain ⟨x0, h1, h2⟩ := key i x hi
    obtain ⟨y0, h3, h4⟩ := key j y hj
    exact hD.1 i j x0 y0 h1 h3 (h2.trans (hxy.trans h4.symm))
  · obtain ⟨q0, h1, h2⟩ := key k q hq
    rw [← h2]
    exact hD.2 k q0 h1
theorem wj0 {A0 : Nat → Prop} {D : va_G} {cl : List vw_C} {ws w0 : va_W} {H H1 : Heap} (hP : va_P D cl ws H) (hD : va_D A0 ws) (isC : List Nat) (hC : isC.map (fun i => ws[i]?) = w0.map some) (hk : ∀ q : Nat, q < H.size → ¬ va_A w0 H.size q → H1[q]? = H[q]?) (hP1 : va_P D cl w0 H1) : va_P D cl ws H1 := by
  intro k q a
  by_cases hA : va_A w0 H.size q.1
  · rcases hA with ⟨j, e, h⟩ | h
    · obtain ⟨i, h2, h3⟩ := map_at hC h
      have := hD.1 k i q (q.1, e) a h3 rfl
      subst this
      have h4 : some q = some (q.1, e) := a.symm.trans h3
      rw [Option.some.inj h4]
      exact hP1 j (q.1, e) h
    · exact absurd (hP k q a).lt (by omega)
  · exact (hP k q a).kept (hk q.1 (hP k q a).lt hA)
def KP (D : va_G) (cB cI cJ : ClassId) (av : List Value) (w0 : va_W) (sz : Nat) : Array Value → State → Prop := va_Pc av (fun U => U.heap.size = sz ∧ va_P D zCl w0 U.heap ∧ va_K D zCl (gT cB cI cJ) U ∧ va_D (fun _ => True) w0 ∧ NK U)
def KB (D : va_G) (cB cI cJ : ClassId) (w0 : va_W) (sz : Nat) (w1 : va_W) : Unit → State → Prop := fun _ t => va_P D zCl w1 t.heap ∧ va_K D zCl (gT cB cI cJ) t ∧ va_D (va_A w0 sz) w1
def CoI (l : Launch) (y : MethodName) (wy : List Cond) (rm : Room) (D : va_G) (cB cI cJ : ClassId) (av : List Value) (w0 : va_W) (r : Int32) (w1 : va_W) : Prop := ∀ sz : Nat, Met l y wy rm (KP D cB cI cJ av w0 sz) (va_Qi (fun (x : Int32) (_ : Unit) => x = r) (KB D cB cI cJ w0 sz w1) (va_A w0 sz)) 0 0 (va_A w0 sz)
def CoV (l : Launch) (y : MethodName) (wy : List Cond) (rm : Room) (D : va_G) (cB cI cJ : ClassId) (av : List Value) (w0 : va_W) (w1 : va_W) : Prop := ∀ sz : Nat, Met l y wy rm (KP D cB cI cJ av w0 sz) (va_Qv (fun (_ : Unit) => True) (KB D cB cI cJ w0 sz w1) (va_A w0 sz)) 0 0 (va_A w0 sz)
theorem KP_blind {D : va_G} {cB cI cJ : ClassId} {av : List Value} {w0 : va_W} {sz : Nat} : FrameBlind (KP D cB cI cJ av w0 sz) := by
  intro a U g mk q
  obtain ⟨q0, q1, qP, qK, qD, qN⟩ := q
  exact ⟨q0, q1, qP, va_K.moved (u := U) (U := U.calling g mk a) (Vm.Alike.refl U.vm) qK, qD, NK_same (u := U) (U := U.calling g mk a) rfl qN⟩
theorem goodA {ls : List Cond} (h : ∀ w ∈ ls, w ∈ AW) : GoodIn AW ls := fun w hw => ⟨h w hw, aw_good w (h w hw)⟩

theorem CoI.ofG {l : Launch} {y : MethodName} {cc : ByteArray} {maxL : Nat} {own : String} {rm : Room} {D : va_G} {cB cI cJ : ClassId} {av : List Value} {w0 : va_W} {r : Int32} {w1 : va_W} {L0 : List (Nat × Value)} {Ts : List Cond} (hy : plainName y.cls = true) (hw : Ts = .code y cc maxL (some .int) :: AW) (ho : y.cls = own) (ha : w1.map Prod.fst = w0.map Prod.fst) (hrm : True) (hL : (lg_sl av).length ≤ maxL) (hl0 : lv_args 0 av = L0)
    (body : ∀ k : GC, GF k l rm cc maxL own D cB cI cJ → (∀ (pc : Nat) (L : List (Nat × Value)), decode cc pc = .ok (.ireturn, 1) → G D maxL k 0 0 pc L [.int r] w1) → G D maxL k 0 0 0 L0 [] w0) : CoI l y Ts rm D cB cI cJ av w0 r w1 := by
  intro sz
  refine Met.ofW (cc := cc) (maxL := maxL) (ret := (some .int)) hy hw ?_
  intro p e s m args below meth c s₁ B hml hv
  obtain ⟨rfl, hsz, hP, hK, hD0, hN⟩ := hv
  have hx := B.exec
  have hb := B.bytes
  have hr := B.returns
  have hts := atoms_spec (ws := Ts) B.pre
  have hown : s.vm.findClass own = some m.cls := by rw [← ho]; exact findClass_of_methodNamed B.named
  have hlocks := B.notSynchronized
  subst hsz
  have hD := hD0.self (sz := s.heap.size)
  have hA : ∀ q : Nat, s.heap.size ≤ q → va_A w0 s.heap.size q := fun q h => Or.inr h
  have hS : va_S (va_A w0 s.heap.size) s.heap s.heap [] := va_S.rf
  have hl := lv_entry av (n := maxL) hL
  rw [lg_entry_eq]
  rw [hl0] at hl
  have addr : va_D (va_A w0 s.heap.size) w1 := by
    have key : ∀ (k : Nat) (q : Nat × va_E), w1[k]? = some q → ∃ q0, w0[k]? = some q0 ∧ q0.1 = q.1 := by
      intro k q hq
      have h1 : (w0.map Prod.fst)[k]? = some q.1 := by rw [← ha, List.getElem?_map, hq]; rfl
      rw [List.getElem?_map] at h1
      cases h0 : w0[k]? with
      | none => rw [h0] at h1; cases h1
      | some q0 => rw [h0] at h1; exact ⟨q0, rfl, Option.some.inj h1⟩
    refine ⟨fun i j x y hi hj hxy => ?_, fun k q hq => ?_⟩
    · obtain ⟨x0, h1, h2⟩ := key i x hi
      obtain ⟨y0, h3, h4⟩ := key j y hj
      exact hD.1 i j x0 y0 h1 h3 (h2.trans (hxy.trans h4.symm))
    · obtain ⟨q0, h1, h2⟩ := key k q hq
      rw [← h2]
      exact hD.2 k q0 h1
  refine body (p, l, e, (headSpec Ts rm).room, s, m, av.toArray, below, meth, c, _, va_A w0 s.heap.size) ⟨⟨hx, hb, hml, hown, fun w h => hts w (by rw [hw]; exact List.mem_cons_of_mem _ h)⟩, hK, hN, rfl, rfl, hA⟩ ?_ s.heap [] _ hl hP hD hS
  intro pc L d H locs ls h1 h2 h3 h4
  exact W.iret hx hb hr (fun t ht hW => ⟨⟨r, (), rfl, rfl, by rw [ht]; exact h2, va_K.moved hW.alike hK, addr⟩, h4.F ht⟩) h4.2.2 d
theorem CoZ.ofG {l : Launch} {y : MethodName} {cc : ByteArray} {maxL : Nat} {own : String} {rm : Room} {D : va_G} {cB cI cJ : ClassId} {av : List Value} {w0 : va_W} {r : Int32} {w1 : va_W} {L0 : List (Nat × Value)} {Ts : List Cond} (hy : plainName y.cls = true) (hw : Ts = .code y cc maxL (some .boolean) :: AW) (ho : y.cls = own) (ha : w1.map Prod.fst = w0.map Prod.fst) (hrm : True) (hL : (lg_sl av).length ≤ maxL) (hl0 : lv_args 0 av = L0)
    (body : ∀ k : GC, GF k l rm cc maxL own D cB cI cJ → (∀ (pc : Nat) (L : List (Nat × Value)), decode cc pc = .ok (.ireturn, 1) → narrow .boolean (.int r) = .int r → G D maxL k 0 0 pc L [.int r] w1) → G D maxL k 0 0 0 L0 [] w0) : CoI l y Ts rm D cB cI cJ av w0 r w1 := by
  intro sz
  refine Met.ofW (cc := cc) (maxL := maxL) (ret := (some .boolean)) hy hw ?_
  intro p e s m args below meth c s₁ B hml hv
  obtain ⟨rfl, hsz, hP, hK, hD0, hN⟩ := hv
  have hx := B.exec
  have hb := B.bytes
  have hr := B.returns
  have hts := atoms_spec (ws := Ts) B.pre
  have hown : s.vm.findClass own = some m.cls := by rw [← ho]; exact findClass_of_methodNamed B.named
  have hlocks := B.notSynchronized
  subst hsz
  have hD := hD0.self (sz := s.heap.size)
  have hA : ∀ q : Nat, s.heap.size ≤ q → va_A w0 s.heap.size q := fun q h => Or.inr h
  have hS : va_S (va_A w0 s.heap.size) s.heap s.heap [] := va_S.rf
  have hl := lv_entry av (n := maxL) hL
  rw [lg_entry_eq]
  rw [hl0] at hl
  have addr : va_D (va_A w0 s.heap.size) w1 := by
    have key : ∀ (k : Nat) (q : Nat × va_E), w1[k]? = some q → ∃ q0, w0[k]? = some q0 ∧ q0.1 = q.1 := by
      intro k q hq
      have h1 : (w0.map Prod.fst)[k]? = some q.1 := by rw [← ha, List.getElem?_map, hq]; rfl
      rw [List.getElem?_map] at h1
      cases h0 : w0[k]? with
      | none => rw [h0] at h1; cases h1
      | some q0 => rw [h0] at h1; exact ⟨q0, rfl, Option.some.inj h1⟩
    refine ⟨fun i j x y hi hj hxy => ?_, fun k q hq => ?_⟩
    · obtain ⟨x0, h1, h2⟩ := key i x hi
      obtain ⟨y0, h3, h4⟩ := key j y hj
      exact hD.1 i j x0 y0 h1 h3 (h2.trans (hxy.trans h4.symm))
    · obtain ⟨q0, h1, h2⟩ := key k q hq
      rw [← h2]
      exact hD.2 k q0 h1
  refine body (p, l, e, (headSpec Ts rm).room, s, m, av.toArray, below, meth, c, _, va_A w0 s.heap.size) ⟨⟨hx, hb, hml, hown, fun w h => hts w (by rw [hw]; exact List.mem_cons_of_mem _ h)⟩, hK, hN, rfl, rfl, hA⟩ ?_ s.heap [] _ hl hP hD hS
  intro pc L d hz H locs ls h1 h2 h3 h4
  exact W.zret hx hb hr hz (fun t ht hW => ⟨⟨r, (), rfl, rfl, by rw [ht]; exact h2, va_K.moved hW.alike hK, addr⟩, h4.F ht⟩) h4.2.2 d
theorem CoV.ofG {l : Launch} {y : MethodName} {cc : ByteArray} {maxL : Nat} {own : String} {rm : Room} {D : va_G} {cB cI cJ : ClassId} {av : List Value} {w0 : va_W} {w1 : va_W} {L0 : List (Nat × Value)} {Ts : List Cond} (hy : plainName y.cls = true) (hw : Ts = .code y cc maxL none :: AW) (ho : y.cls = own) (ha : w1.map Prod.fst = w0.map Prod.fst) (hrm : True) (hL : (lg_sl av).length ≤ maxL) (hl0 : lv_args 0 av = L0)
    (body : ∀ k : GC, GF k l rm cc maxL own D cB cI cJ → (∀ (pc : Nat) (L : List (Nat × Value)), decode cc pc = .ok (.return_, 1) → G D maxL k 0 0 pc L [] w1) → G D maxL k 0 0 0 L0 [] w0) : CoV l y Ts rm D cB cI cJ av w0 w1 := by
  intro sz
  refine Met.ofW (cc := cc) (maxL := maxL) (ret := none) hy hw ?_
  intro p e s m args below meth c s₁ B hml hv
  obtain ⟨rfl, hsz, hP, hK, hD0, hN⟩ := hv
  have hx := B.exec
  have hb := B.bytes
  have hr := B.returns
  have hts := atoms_spec (ws := Ts) B.pre
  have hown : s.vm.findClass own = some m.cls := by rw [← ho]; exact findClass_of_methodNamed B.named
  have hlocks := B.notSynchronized
  subst hsz
  have hD := hD0.self (sz := s.heap.size)
  have hA : ∀ q : Nat, s.heap.size ≤ q → va_A w0 s.heap.size q := fun q h => Or.inr h
  have hS : va_S (va_A w0 s.heap.size) s.heap s.heap [] := va_S.rf
  have hl := lv_entry av (n := maxL) hL
  rw [lg_entry_eq]
  rw [hl0] at hl
  have addr : va_D (va_A w0 s.heap.size) w1 := by
    have key : ∀ (k : Nat) (q : Nat × va_E), w1[k]? = some q → ∃ q0, w0[k]? = some q0 ∧ q0.1 = q.1 := by
      intro k q hq
      have h1 : (w0.map Prod.fst)[k]? = some q.1 := by rw [← ha, List.getElem?_map, hq]; rfl
      rw [List.getElem?_map] at h1
      cases h0 : w0[k]? with
      | none => rw [h0] at h1; cases h1
      | some q0 => rw [h0] at h1; exact ⟨q0, rfl, Option.some.inj h1⟩
    refine ⟨fun i j x y hi hj hxy => ?_, fun k q hq => ?_⟩
    · obtain ⟨x0, h1, h2⟩ := key i x hi
      obtain ⟨y0, h3, h4⟩ := key j y hj
      exact hD.1 i j x0 y0 h1 h3 (h2.trans (hxy.trans h4.symm))
    · obtain ⟨q0, h1, h2⟩ := key k q hq
      rw [← h2]
      exact hD.2 k q0 h1
  refine body (p, l, e, (headSpec Ts rm).room, s, m, av.toArray, below, meth, c, _, va_A w0 s.heap.size) ⟨⟨hx, hb, hml, hown, fun w h => hts w (by rw [hw]; exact List.mem_cons_of_mem _ h)⟩, hK, hN, rfl, rfl, hA⟩ ?_ s.heap [] _ hl hP hD hS
  intro pc L d H locs ls h1 h2 h3 h4
  exact W.vret hx hb hr (fun t ht hW => ⟨⟨(), rfl, trivial, by rw [ht]; exact h2, va_K.moved hW.alike hK, addr⟩, h4.F ht⟩) h4.2.2 d
section GR2
variable {k : GC} {l : Launch} {R : Room} {cc : ByteArray} {nL : Nat} {own : String} {D : va_G} {cB cI cJ : ClassId} {cells slots pc : Nat} {L L' : List (Nat × Value)} {st : List Value} {ws ws' : va_W}
theorem G_calliV0 (F : GF k l R cc nL own D cB cI cJ) {y : MethodName} {bytes : ByteArray} {maxL n index : Nat} {ret : Option FieldType} {rm : Room} {As : List Value} {w0 : va_W} {r : Int32} {q0 ci b : Nat} {fs : List Value} (hM : CoI l y (.code y bytes maxL ret :: AW) rm D cB cI cJ (.ref b :: As) w0 r w0) {rest : List Value} (isC : List Nat) (hC : isC.map (fun i => ws[i]?) = w0.map some) (hnd : va_nd isC = true) (he : ws[q0]? = some (b, .inr (ci, fs))) (cv : Cond.methodLink own index y ∈ AW ∧ Cond.instanceMethod y ∈ AW ∧ Cond.selects y.cls y y ∈ AW ∧ Cond.initialized y.cls ∈ AW ∧ Cond.code y bytes maxL ret ∈ AW ∧ (∃ (T : u_T) (N : Nat), zCl[ci]? = some (y.cls, T, N)) ∧ y.cls ≠ "java/lang/invoke/MethodHandle" ∧ y.cls ≠ "java/lang/invoke/VarHandle" ∧ (parseMethodDescriptor y.desc).map (fun d => d.parameters.length) = some n) (hrc : rm.cells = 0) (hrs : rm.slots = 0) (hR : rm.frames + 1 ≤ R.frames ∧ 8 + (maxL + 11) + rm.locals ≤ R.locals) (hf : cells ≤ R.cells ∧ slots ≤ R.slots) (hn : As.length = n) (h8 : (rest.map fun v => v.category).sum ≤ 8) (d : decode cc pc = .ok (.invokevirtual index, 3)) (hst : st = (As.reverse ++ .ref b :: rest)) (kk : G D nL k cells slots (pc + 3) L (.int r :: rest) ws) : G D nL k cells slots pc L st ws := by
  obtain ⟨p, l0, e, R0, s, m, args, below, meth, c, Q, A⟩ := k
  subst hst
  obtain ⟨c1, c2, c3, c4, c5, ⟨T, N, hc⟩, hd⟩ := cv
  obtain ⟨⟨hx, hb, hml, hown, hts⟩, hK, hN, rfl, rfl, hA⟩ := F
  have hT : GoodIn AW (wsV own index y.cls y (.code y bytes maxL ret :: AW)) := goodA (by
    intro w hw
    simp only [wsV, List.cons_append, List.nil_append, List.mem_cons] at hw
    rcases hw with rfl | rfl | rfl | rfl | rfl | hw <;> assumption)
  have cw := cwV (R := R) n hts hT rfl hrc hrs ⟨rfl, hd⟩ hR
  intro H locs ls h1 h2 h3 h4
  have hPc := h2.sub (ws' := w0) isC (map_fm hC)
  have hDc := h3.sub (ws' := w0) isC hnd hC
  have hFc := va_free (wc := w0) h3 h4 hA isC hC
  refine va_calli (va_runV (rest := rest) ⟨hx, hb, hml, hown, hts⟩ (hM H.size) cw ⟨KP_blind, va_recv hK h2 hc he, fun U hU hW => ?_⟩ rfl hn h1.1 rfl (lv_room h8) d hf) h4 (fun q _ h => hFc q h) hFc (fun r2 u t H1 locs1 ht hvm hpost hB hz1 hk1 hS => ?_)
  · exact ⟨rfl, by rw [hU], by rw [hU]; exact hPc, va_K.moved hW.alike hK, hDc.weaken (fun _ _ _ _ => trivial), NK_warm hW hN⟩
  · obtain ⟨hP1, hK1, hD1⟩ := hB
    rw [ht] at hP1
    subst hpost
    exact kk H1 locs1 ls h1 (wj0 h2 h3 isC hC hk1 hP1) h3 hS
theorem G_calliV (F : GF k l R cc nL own D cB cI cJ) {y : MethodName} {bytes : ByteArray} {maxL n index : Nat} {ret : Option FieldType} {rm : Room} {As : List Value} {w0 w1 : va_W} {r : Int32} {q0 ci b : Nat} {fs : List Value} (hM : CoI l y (.code y bytes maxL ret :: AW) rm D cB cI cJ (.ref b :: As) w0 r w1) {rest : List Value} (isC : List Nat) (hC : isC.map (fun i => ws[i]?) = w0.map some) (hnd : va_nd isC = true) (ha : w1.map Prod.fst = w0.map Prod.fst) (hw : setsW ws isC w1 = ws') (he : ws[q0]? = some (b, .inr (ci, fs))) (cv : Cond.methodLink own index y ∈ AW ∧ Cond.instanceMethod y ∈ AW ∧ Cond.selects y.cls y y ∈ AW ∧ Cond.initialized y.cls ∈ AW ∧ Cond.code y bytes maxL ret ∈ AW ∧ (∃ (T : u_T) (N : Nat), zCl[ci]? = some (y.cls, T, N)) ∧ y.cls ≠ "java/lang/invoke/MethodHandle" ∧ y.cls ≠ "java/lang/invoke/VarHandle" ∧ (parseMethodDescriptor y.desc).map (fun d => d.parameters.length) = some n) (hrc : rm.cells = 0) (hrs : rm.slots = 0) (hR : rm.frames + 1 ≤ R.frames ∧ 8 + (maxL + 11) + rm.locals ≤ R.locals) (hf : cells ≤ R.cells ∧ slots ≤ R.slots) (hn : As.length = n) (h8 : (rest.map fun v => v.category).sum ≤ 8) (d : decode cc pc = .ok (.invokevirtual index, 3)) (hst : st = (As.reverse ++ .ref b :: rest)) (kk : G D nL k cells slots (pc + 3) L (.int r :: rest) ws') : G D nL k cells slots pc L st ws := by
  obtain ⟨p, l0, e, R0, s, m, args, below, meth, c, Q, A⟩ := k
  subst hst
  obtain ⟨c1, c2, c3, c4, c5, ⟨T, N, hc⟩, hd⟩ := cv
  obtain ⟨⟨hx, hb, hml, hown, hts⟩, hK, hN, rfl, rfl, hA⟩ := F
  have hT : GoodIn AW (wsV own index y.cls y (.code y bytes maxL ret :: AW)) := goodA (by
    intro w hw
    simp only [wsV, List.cons_append, List.nil_append, List.mem_cons] at hw
    rcases hw with rfl | rfl | rfl | rfl | rfl | hw <;> assumption)
  have cw := cwV (R := R) n hts hT rfl hrc hrs ⟨rfl, hd⟩ hR
  intro H locs ls h1 h2 h3 h4
  have hPc := h2.sub (ws' := w0) isC (map_fm hC)
  have hDc := h3.sub (ws' := w0) isC hnd hC
  have hFc := va_free (wc := w0) h3 h4 hA isC hC
  refine va_calli (va_runV (rest := rest) ⟨hx, hb, hml, hown, hts⟩ (hM H.size) cw ⟨KP_blind, va_recv hK h2 hc he, fun U hU hW => ?_⟩ rfl hn h1.1 rfl (lv_room h8) d hf) h4 (fun q _ h => hFc q h) hFc (fun r2 u t H1 locs1 ht hvm hpost hB hz1 hk1 hS => ?_)
  · exact ⟨rfl, by rw [hU], by rw [hU]; exact hPc, va_K.moved hW.alike hK, hDc.weaken (fun _ _ _ _ => trivial), NK_warm hW hN⟩
  · obtain ⟨hP1, hK1, hD1⟩ := hB
    rw [ht] at hP1
    subst hpost
    obtain ⟨hP2, hD2⟩ := wj h2 h3 isC hC ha hw hk1 hP1
    exact kk H1 locs1 ls h1 hP2 hD2 hS
theorem G_callvV0 (F : GF k l R cc nL own D cB cI cJ) {y : MethodName} {bytes : ByteArray} {maxL n index : Nat} {ret : Option FieldType} {rm : Room} {As : List Value} {w0 : va_W} {q0 ci b : Nat} {fs : List Value} (hM : CoV l y (.code y bytes maxL ret :: AW) rm D cB cI cJ (.ref b :: As) w0 w0) {rest : List Value} (isC : List Nat) (hC : isC.map (fun i => ws[i]?) = w0.map some) (hnd : va_nd isC = true) (he : ws[q0]? = some (b, .inr (ci, fs))) (cv : Cond.methodLink own index y ∈ AW ∧ Cond.instanceMethod y ∈ AW ∧ Cond.selects y.cls y y ∈ AW ∧ Cond.initialized y.cls ∈ AW ∧ Cond.code y bytes maxL ret ∈ AW ∧ (∃ (T : u_T) (N : Nat), zCl[ci]? = some (y.cls, T, N)) ∧ y.cls ≠ "java/lang/invoke/MethodHandle" ∧ y.cls ≠ "java/lang/invoke/VarHandle" ∧ (parseMethodDescriptor y.desc).map (fun d => d.parameters.length) = some n) (hrc : rm.cells = 0) (hrs : rm.slots = 0) (hR : rm.frames + 1 ≤ R.frames ∧ 8 + (maxL + 11) + rm.locals ≤ R.locals) (hf : cells ≤ R.cells ∧ slots ≤ R.slots) (hn : As.length = n) (h8 : (rest.map fun v => v.category).sum ≤ 8) (d : decode cc pc = .ok (.invokevirtual index, 3)) (hst : st = (As.reverse ++ .ref b :: rest)) (kk : G D nL k cells slots (pc + 3) L rest ws) : G D nL k cells slots pc L st ws := by
  obtain ⟨p, l0, e, R0, s, m, args, below, meth, c, Q, A⟩ := k
  subst hst
  obtain ⟨c1, c2, c3, c4, c5, ⟨T, N, hc⟩, hd⟩ := cv
  obtain ⟨⟨hx, hb, hml, hown, hts⟩, hK, hN, rfl, rfl, hA⟩ := F
  have hT : GoodIn AW (wsV own index y.cls y (.code y bytes maxL ret :: AW)) := goodA (by
    intro w hw
    simp only [wsV, List.cons_append, List.nil_append, List.mem_cons] at hw
    rcases hw with rfl | rfl | rfl | rfl | rfl | hw <;> assumption)
  have cw := cwV (R := R) n hts hT rfl hrc hrs ⟨rfl, hd⟩ hR
  intro H locs ls h1 h2 h3 h4
  have hPc := h2.sub (ws' := w0) isC (map_fm hC)
  have hDc := h3.sub (ws' := w0) isC hnd hC
  have hFc := va_free (wc := w0) h3 h4 hA isC hC
  refine va_callv (va_runV (rest := rest) ⟨hx, hb, hml, hown, hts⟩ (hM H.size) cw ⟨KP_blind, va_recv hK h2 hc he, fun U hU hW => ?_⟩ rfl hn h1.1 rfl (lv_room h8) d hf) h4 (fun q _ h => hFc q h) hFc (fun u t H1 locs1 ht hvm hpost hB hz1 hk1 hS => ?_)
  · exact ⟨rfl, by rw [hU], by rw [hU]; exact hPc, va_K.moved hW.alike hK, hDc.weaken (fun _ _ _ _ => trivial), NK_warm hW hN⟩
  · obtain ⟨hP1, hK1, hD1⟩ := hB
    rw [ht] at hP1
    exact kk H1 locs1 ls h1 (wj0 h2 h3 isC hC hk1 hP1) h3 hS
theorem G_callvV (F : GF k l R cc nL own D cB cI cJ) {y : MethodName} {bytes : ByteArray} {maxL n index : Nat} {ret : Option FieldType} {rm : Room} {As : List Value} {w0 w1 : va_W} {q0 ci b : Nat} {fs : List Value} (hM : CoV l y (.code y bytes maxL ret :: AW) rm D cB cI cJ (.ref b :: As) w0 w1) {rest : List Value} (isC : List Nat) (hC : isC.map (fun i => ws[i]?) = w0.map some) (hnd : va_nd isC = true) (ha : w1.map Prod.fst = w0.map Prod.fst) (hw : setsW ws isC w1 = ws') (he : ws[q0]? = some (b, .inr (ci, fs))) (cv : Cond.methodLink own index y ∈ AW ∧ Cond.instanceMethod y ∈ AW ∧ Cond.selects y.cls y y ∈ AW ∧ Cond.initialized y.cls ∈ AW ∧ Cond.code y bytes maxL ret ∈ AW ∧ (∃ (T : u_T) (N : Nat), zCl[ci]? = some (y.cls, T, N)) ∧ y.cls ≠ "java/lang/invoke/MethodHandle" ∧ y.cls ≠ "java/lang/invoke/VarHandle" ∧ (parseMethodDescriptor y.desc).map (fun d => d.parameters.length) = some n) (hrc : rm.cells = 0) (hrs : rm.slots = 0) (hR : rm.frames + 1 ≤ R.frames ∧ 8 + (maxL + 11) + rm.locals ≤ R.locals) (hf : cells ≤ R.cells ∧ slots ≤ R.slots) (hn : As.length = n) (h8 : (rest.map fun v => v.category).sum ≤ 8) (d : decode cc pc = .ok (.invokevirtual index, 3)) (hst : st = (As.reverse ++ .ref b :: rest)) (kk : G D nL k cells slots (pc + 3) L rest ws') : G D nL k cells slots pc L st ws := by
  obtain ⟨p, l0, e, R0, s, m, args, below, meth, c, Q, A⟩ := k
  subst hst
  obtain ⟨c1, c2, c3, c4, c5, ⟨T, N, hc⟩, hd⟩ := cv
  obtain ⟨⟨hx, hb, hml, hown, hts⟩, hK, hN, rfl, rfl, hA⟩ := F
  have hT : GoodIn AW (wsV own index y.cls y (.code y bytes maxL ret :: AW)) := goodA (by
    intro w hw
    simp only [wsV, List.cons_append, List.nil_append, List.mem_cons] at hw
    rcases hw with rfl | rfl | rfl | rfl | rfl | hw <;> assumption)
  have cw := cwV (R := R) n hts hT rfl hrc hrs ⟨rfl, hd⟩ hR
  intro H locs ls h1 h2 h3 h4
  have hPc := h2.sub (ws' := w0) isC (map_fm hC)
  have hDc := h3.sub (ws' := w0) isC hnd hC
  have hFc := va_free (wc := w0) h3 h4 hA isC hC
  refine va_callv (va_runV (rest := rest) ⟨hx, hb, hml, hown, hts⟩ (hM H.size) cw ⟨KP_blind, va_recv hK h2 hc he, fun U hU hW => ?_⟩ rfl hn h1.1 rfl (lv_room h8) d hf) h4 (fun q _ h => hFc q h) hFc (fun u t H1 locs1 ht hvm hpost hB hz1 hk1 hS => ?_)
  · exact ⟨rfl, by rw [hU], by rw [hU]; exact hPc, va_K.moved hW.alike hK, hDc.weaken (fun _ _ _ _ => trivial), NK_warm hW hN⟩
  · obtain ⟨hP1, hK1, hD1⟩ := hB
    rw [ht] at hP1
    obtain ⟨hP2, hD2⟩ := wj h2 h3 isC hC ha hw hk1 hP1
    exact kk H1 locs1 ls h1 hP2 hD2 hS
theorem G_calliU0 (F : GF k l R cc nL own D cB cI cJ) {y : MethodName} {bytes : ByteArray} {maxL n index : Nat} {ret : Option FieldType} {rm : Room} {As : List Value} {w0 : va_W} {r : Int32} {q0 ci b : Nat} {fs : List Value} (hM : CoI l y (.code y bytes maxL ret :: AW) rm D cB cI cJ (.ref b :: As) w0 r w0) {rest : List Value} (isC : List Nat) (hC : isC.map (fun i => ws[i]?) = w0.map some) (hnd : va_nd isC = true) (he : ws[q0]? = some (b, .inr (ci, fs))) {x : MethodName} {owner C : String} (cv : Cond.methodLink own index x ∈ AW ∧ Cond.sameMethod x.cls owner x.name x.desc ∈ AW ∧ Cond.selects C x y ∈ AW ∧ Cond.instanceMethod y ∈ AW ∧ Cond.initialized y.cls ∈ AW ∧ Cond.code y bytes maxL ret ∈ AW ∧ (∃ (T : u_T) (N : Nat), zCl[ci]? = some (C, T, N)) ∧ y = ⟨owner, x.name, x.desc⟩ ∧ owner ≠ "java/lang/invoke/MethodHandle" ∧ owner ≠ "java/lang/invoke/VarHandle" ∧ (parseMethodDescriptor x.desc).map (fun d => d.parameters.length) = some n) (hrc : rm.cells = 0) (hrs : rm.slots = 0) (hR : rm.frames + 1 ≤ R.frames ∧ 8 + (maxL + 11) + rm.locals ≤ R.locals) (hf : cells ≤ R.cells ∧ slots ≤ R.slots) (hn : As.length = n) (h8 : (rest.map fun v => v.category).sum ≤ 8) (d : decode cc pc = .ok (.invokevirtual index, 3)) (hst : st = (As.reverse ++ .ref b :: rest)) (kk : G D nL k cells slots (pc + 3) L (.int r :: rest) ws) : G D nL k cells slots pc L st ws := by
  obtain ⟨p, l0, e, R0, s, m, args, below, meth, c, Q, A⟩ := k
  subst hst
  obtain ⟨c1, c2, c3, c4, c5, c6, ⟨T, N, hc⟩, hyx, hd⟩ := cv
  obtain ⟨⟨hx, hb, hml, hown, hts⟩, hK, hN, rfl, rfl, hA⟩ := F
  have hT : GoodIn AW (va_wsU own index C owner x y (.code y bytes maxL ret :: AW)) := goodA (by
    intro w hw
    simp only [va_wsU, List.cons_append, List.nil_append, List.mem_cons] at hw
    rcases hw with rfl | rfl | rfl | rfl | rfl | rfl | hw <;> assumption)
  have cw := va_cwU (R := R) n hts hT rfl hrc hrs hyx hd hR
  intro H locs ls h1 h2 h3 h4
  have hPc := h2.sub (ws' := w0) isC (map_fm hC)
  have hDc := h3.sub (ws' := w0) isC hnd hC
  have hFc := va_free (wc := w0) h3 h4 hA isC hC
  refine va_calli (va_runU (rest := rest) ⟨hx, hb, hml, hown, hts⟩ (hM H.size) cw ⟨KP_blind, va_recv hK h2 hc he, fun U hU hW => ?_⟩ rfl hn h1.1 rfl (lv_room h8) d hf) h4 (fun q _ h => hFc q h) hFc (fun r2 u t H1 locs1 ht hvm hpost hB hz1 hk1 hS => ?_)
  · exact ⟨rfl, by rw [hU], by rw [hU]; exact hPc, va_K.moved hW.alike hK, hDc.weaken (fun _ _ _ _ => trivial), NK_warm hW hN⟩
  · obtain ⟨hP1, hK1, hD1⟩ := hB
    rw [ht] at hP1
    subst hpost
    exact kk H1 locs1 ls h1 (wj0 h2 h3 isC hC hk1 hP1) h3 hS
theorem G_calliU (F : GF k l R cc nL own D cB cI cJ) {y : MethodName} {bytes : ByteArray} {maxL n index : Nat} {ret : Option FieldType} {rm : Room} {As : List Value} {w0 w1 : va_W} {r : Int32} {q0 ci b : Nat} {fs : List Value} (hM : CoI l y (.code y bytes maxL ret :: AW) rm D cB cI cJ (.ref b :: As) w0 r w1) {rest : List Value} (isC : List Nat) (hC : isC.map (fun i => ws[i]?) = w0.map some) (hnd : va_nd isC = true) (ha : w1.map Prod.fst = w0.map Prod.fst) (hw : setsW ws isC w1 = ws') (he : ws[q0]? = some (b, .inr (ci, fs))) {x : MethodName} {owner C : String} (cv : Cond.methodLink own index x ∈ AW ∧ Cond.sameMethod x.cls owner x.name x.desc ∈ AW ∧ Cond.selects C x y ∈ AW ∧ Cond.instanceMethod y ∈ AW ∧ Cond.initialized y.cls ∈ AW ∧ Cond.code y bytes maxL ret ∈ AW ∧ (∃ (T : u_T) (N : Nat), zCl[ci]? = some (C, T, N)) ∧ y = ⟨owner, x.name, x.desc⟩ ∧ owner ≠ "java/lang/invoke/MethodHandle" ∧ owner ≠ "java/lang/invoke/VarHandle" ∧ (parseMethodDescriptor x.desc).map (fun d => d.parameters.length) = some n) (hrc : rm.cells = 0) (hrs : rm.slots = 0) (hR : rm.frames + 1 ≤ R.frames ∧ 8 + (maxL + 11) + rm.locals ≤ R.locals) (hf : cells ≤ R.cells ∧ slots ≤ R.slots) (hn : As.length = n) (h8 : (rest.map fun v => v.category).sum ≤ 8) (d : decode cc pc = .ok (.invokevirtual index, 3)) (hst : st = (As.reverse ++ .ref b :: rest)) (kk : G D nL k cells slots (pc + 3) L (.int r :: rest) ws') : G D nL k cells slots pc L st ws := by
  obtain ⟨p, l0, e, R0, s, m, args, below, meth, c, Q, A⟩ := k
  subst hst
  obtain ⟨c1, c2, c3, c4, c5, c6, ⟨T, N, hc⟩, hyx, hd⟩ := cv
  obtain ⟨⟨hx, hb, hml, hown, hts⟩, hK, hN, rfl, rfl, hA⟩ := F
  have hT : GoodIn AW (va_wsU own index C owner x y (.code y bytes maxL ret :: AW)) := goodA (by
    intro w hw
    simp only [va_wsU, List.cons_append, List.nil_append, List.mem_cons] at hw
    rcases hw with rfl | rfl | rfl | rfl | rfl | rfl | hw <;> assumption)
  have cw := va_cwU (R := R) n hts hT rfl hrc hrs hyx hd hR
  intro H locs ls h1 h2 h3 h4
  have hPc := h2.sub (ws' := w0) isC (map_fm hC)
  have hDc := h3.sub (ws' := w0) isC hnd hC
  have hFc := va_free (wc := w0) h3 h4 hA isC hC
  refine va_calli (va_runU (rest := rest) ⟨hx, hb, hml, hown, hts⟩ (hM H.size) cw ⟨KP_blind, va_recv hK h2 hc he, fun U hU hW => ?_⟩ rfl hn h1.1 rfl (lv_room h8) d hf) h4 (fun q _ h => hFc q h) hFc (fun r2 u t H1 locs1 ht hvm hpost hB hz1 hk1 hS => ?_)
  · exact ⟨rfl, by rw [hU], by rw [hU]; exact hPc, va_K.moved hW.alike hK, hDc.weaken (fun _ _ _ _ => trivial), NK_warm hW hN⟩
  · obtain ⟨hP1, hK1, hD1⟩ := hB
    rw [ht] at hP1
    subst hpost
    obtain ⟨hP2, hD2⟩ := wj h2 h3 isC hC ha hw hk1 hP1
    exact kk H1 locs1 ls h1 hP2 hD2 hS
theorem G_callvU0 (F : GF k l R cc nL own D cB cI cJ) {y : MethodName} {bytes : ByteArray} {maxL n index : Nat} {ret : Option FieldType} {rm : Room} {As : List Value} {w0 : va_W} {q0 ci b : Nat} {fs : List Value} (hM : CoV l y (.code y bytes maxL ret :: AW) rm D cB cI cJ (.ref b :: As) w0 w0) {rest : List Value} (isC : List Nat) (hC : isC.map (fun i => ws[i]?) = w0.map some) (hnd : va_nd isC = true) (he : ws[q0]? = some (b, .inr (ci, fs))) {x : MethodName} {owner C : String} (cv : Cond.methodLink own index x ∈ AW ∧ Cond.sameMethod x.cls owner x.name x.desc ∈ AW ∧ Cond.selects C x y ∈ AW ∧ Cond.instanceMethod y ∈ AW ∧ Cond.initialized y.cls ∈ AW ∧ Cond.code y bytes maxL ret ∈ AW ∧ (∃ (T : u_T) (N : Nat), zCl[ci]? = some (C, T, N)) ∧ y = ⟨owner, x.name, x.desc⟩ ∧ owner ≠ "java/lang/invoke/MethodHandle" ∧ owner ≠ "java/lang/invoke/VarHandle" ∧ (parseMethodDescriptor x.desc).map (fun d => d.parameters.length) = some n) (hrc : rm.cells = 0) (hrs : rm.slots = 0) (hR : rm.frames + 1 ≤ R.frames ∧ 8 + (maxL + 11) + rm.locals ≤ R.locals) (hf : cells ≤ R.cells ∧ slots ≤ R.slots) (hn : As.length = n) (h8 : (rest.map fun v => v.category).sum ≤ 8) (d : decode cc pc = .ok (.invokevirtual index, 3)) (hst : st = (As.reverse ++ .ref b :: rest)) (kk : G D nL k cells slots (pc + 3) L rest ws) : G D nL k cells slots pc L st ws := by
  obtain ⟨p, l0, e, R0, s, m, args, below, meth, c, Q, A⟩ := k
  subst hst
  obtain ⟨c1, c2, c3, c4, c5, c6, ⟨T, N, hc⟩, hyx, hd⟩ := cv
  obtain ⟨⟨hx, hb, hml, hown, hts⟩, hK, hN, rfl, rfl, hA⟩ := F
  have hT : GoodIn AW (va_wsU own index C owner x y (.code y bytes maxL ret :: AW)) := goodA (by
    intro w hw
    simp only [va_wsU, List.cons_append, List.nil_append, List.mem_cons] at hw
    rcases hw with rfl | rfl | rfl | rfl | rfl | rfl | hw <;> assumption)
  have cw := va_cwU (R := R) n hts hT rfl hrc hrs hyx hd hR
  intro H locs ls h1 h2 h3 h4
  have hPc := h2.sub (ws' := w0) isC (map_fm hC)
  have hDc := h3.sub (ws' := w0) isC hnd hC
  have hFc := va_free (wc := w0) h3 h4 hA isC hC
  refine va_callv (va_runU (rest := rest) ⟨hx, hb, hml, hown, hts⟩ (hM H.size) cw ⟨KP_blind, va_recv hK h2 hc he, fun U hU hW => ?_⟩ rfl hn h1.1 rfl (lv_room h8) d hf) h4 (fun q _ h => hFc q h) hFc (fun u t H1 locs1 ht hvm hpost hB hz1 hk1 hS => ?_)
  · exact ⟨rfl, by rw [hU], by rw [hU]; exact hPc, va_K.moved hW.alike hK, hDc.weaken (fun _ _ _ _ => trivial), NK_warm hW hN⟩
  · obtain ⟨hP1, hK1, hD1⟩ := hB
    rw [ht] at hP1
    exact kk H1 locs1 ls h1 (wj0 h2 h3 isC hC hk1 hP1) h3 hS
theorem G_callvU (F : GF k l R cc nL own D cB cI cJ) {y : MethodName} {bytes : ByteArray} {maxL n index : Nat} {ret : Option FieldType} {rm : Room} {As : List Value} {w0 w1 : va_W} {q0 ci b : Nat} {fs : List Value} (hM : CoV l y (.code y bytes maxL ret :: AW) rm D cB cI cJ (.ref b :: As) w0 w1) {rest : List Value} (isC : List Nat) (hC : isC.map (fun i => ws[i]?) = w0.map some) (hnd : va_nd isC = true) (ha : w1.map Prod.fst = w0.map Prod.fst) (hw : setsW ws isC w1 = ws') (he : ws[q0]? = some (b, .inr (ci, fs))) {x : MethodName} {owner C : String} (cv : Cond.methodLink own index x ∈ AW ∧ Cond.sameMethod x.cls owner x.name x.desc ∈ AW ∧ Cond.selects C x y ∈ AW ∧ Cond.instanceMethod y ∈ AW ∧ Cond.initialized y.cls ∈ AW ∧ Cond.code y bytes maxL ret ∈ AW ∧ (∃ (T : u_T) (N : Nat), zCl[ci]? = some (C, T, N)) ∧ y = ⟨owner, x.name, x.desc⟩ ∧ owner ≠ "java/lang/invoke/MethodHandle" ∧ owner ≠ "java/lang/invoke/VarHandle" ∧ (parseMethodDescriptor x.desc).map (fun d => d.parameters.length) = some n) (hrc : rm.cells = 0) (hrs : rm.slots = 0) (hR : rm.frames + 1 ≤ R.frames ∧ 8 + (maxL + 11) + rm.locals ≤ R.locals) (hf : cells ≤ R.cells ∧ slots ≤ R.slots) (hn : As.length = n) (h8 : (rest.map fun v => v.category).sum ≤ 8) (d : decode cc pc = .ok (.invokevirtual index, 3)) (hst : st = (As.reverse ++ .ref b :: rest)) (kk : G D nL k cells slots (pc + 3) L rest ws') : G D nL k cells slots pc L st ws := by
  obtain ⟨p, l0, e, R0, s, m, args, below, meth, c, Q, A⟩ := k
  subst hst
  obtain ⟨c1, c2, c3, c4, c5, c6, ⟨T, N, hc⟩, hyx, hd⟩ := cv
  obtain ⟨⟨hx, hb, hml, hown, hts⟩, hK, hN, rfl, rfl, hA⟩ := F
  have hT : GoodIn AW (va_wsU own index C owner x y (.code y bytes maxL ret :: AW)) := goodA (by
    intro w hw
    simp only [va_wsU, List.cons_append, List.nil_append, List.mem_cons] at hw
    rcases hw with rfl | rfl | rfl | rfl | rfl | rfl | hw <;> assumption)
  have cw := va_cwU (R := R) n hts hT rfl hrc hrs hyx hd hR
  intro H locs ls h1 h2 h3 h4
  have hPc := h2.sub (ws' := w0) isC (map_fm hC)
  have hDc := h3.sub (ws' := w0) isC hnd hC
  have hFc := va_free (wc := w0) h3 h4 hA isC hC
  refine va_callv (va_runU (rest := rest) ⟨hx, hb, hml, hown, hts⟩ (hM H.size) cw ⟨KP_blind, va_recv hK h2 hc he, fun U hU hW => ?_⟩ rfl hn h1.1 rfl (lv_room h8) d hf) h4 (fun q _ h => hFc q h) hFc (fun u t H1 locs1 ht hvm hpost hB hz1 hk1 hS => ?_)
  · exact ⟨rfl, by rw [hU], by rw [hU]; exact hPc, va_K.moved hW.alike hK, hDc.weaken (fun _ _ _ _ => trivial), NK_warm hW hN⟩
  · obtain ⟨hP1, hK1, hD1⟩ := hB
    rw [ht] at hP1
    obtain ⟨hP2, hD2⟩ := wj h2 h3 isC hC ha hw hk1 hP1
    exact kk H1 locs1 ls h1 hP2 hD2 hS
theorem G_calliA0 (F : GF k l R cc nL own D cB cI cJ) {y : MethodName} {bytes : ByteArray} {maxL n index : Nat} {ret : Option FieldType} {rm : Room} {As : List Value} {w0 : va_W} {r : Int32} {q0 ci b : Nat} {fs : List Value} (hM : CoI l y (.code y bytes maxL ret :: AW) rm D cB cI cJ (.ref b :: As) w0 r w0) {rest : List Value} (isC : List Nat) (hC : isC.map (fun i => ws[i]?) = w0.map some) (hnd : va_nd isC = true) (he : ws[q0]? = some (b, .inr (ci, fs))) {x : MethodName} {owner C : String} (cv : Cond.methodLink own index x ∈ AW ∧ Cond.sameMethod x.cls owner x.name x.desc ∈ AW ∧ Cond.selects C x y ∈ AW ∧ Cond.instanceMethod y ∈ AW ∧ Cond.initialized y.cls ∈ AW ∧ Cond.code y bytes maxL ret ∈ AW ∧ (∃ (T : u_T) (N : Nat), zCl[ci]? = some (C, T, N)) ∧ Cond.declares ⟨owner, x.name, x.desc⟩ ∈ NW ∧ owner ≠ "java/lang/invoke/MethodHandle" ∧ owner ≠ "java/lang/invoke/VarHandle" ∧ (parseMethodDescriptor x.desc).map (fun d => d.parameters.length) = some n) (hrc : rm.cells = 0) (hrs : rm.slots = 0) (hR : rm.frames + 1 ≤ R.frames ∧ 8 + (maxL + 11) + rm.locals ≤ R.locals) (hf : cells ≤ R.cells ∧ slots ≤ R.slots) (hn : As.length = n) (h8 : (rest.map fun v => v.category).sum ≤ 8) (d : decode cc pc = .ok (.invokevirtual index, 3)) (hst : st = (As.reverse ++ .ref b :: rest)) (kk : G D nL k cells slots (pc + 3) L (.int r :: rest) ws) : G D nL k cells slots pc L st ws := by
  obtain ⟨p, l0, e, R0, s, m, args, below, meth, c, Q, A⟩ := k
  subst hst
  obtain ⟨c1, c2, c3, c4, c5, c6, ⟨T, N, hc⟩, hz, hd⟩ := cv
  obtain ⟨⟨hx, hb, hml, hown, hts⟩, hK, hN, rfl, rfl, hA⟩ := F
  have hT : GoodIn AW (va_wsU own index C owner x y (.code y bytes maxL ret :: AW)) := goodA (by
    intro w hw
    simp only [va_wsU, List.cons_append, List.nil_append, List.mem_cons] at hw
    rcases hw with rfl | rfl | rfl | rfl | rfl | rfl | hw <;> assumption)
  have cw := va_cwA (R := R) n hts hT rfl hrc hrs (hN _ hz) hd hR
  intro H locs ls h1 h2 h3 h4
  have hPc := h2.sub (ws' := w0) isC (map_fm hC)
  have hDc := h3.sub (ws' := w0) isC hnd hC
  have hFc := va_free (wc := w0) h3 h4 hA isC hC
  refine va_calli (va_runU (rest := rest) ⟨hx, hb, hml, hown, hts⟩ (hM H.size) cw ⟨KP_blind, va_recv hK h2 hc he, fun U hU hW => ?_⟩ rfl hn h1.1 rfl (lv_room h8) d hf) h4 (fun q _ h => hFc q h) hFc (fun r2 u t H1 locs1 ht hvm hpost hB hz1 hk1 hS => ?_)
  · exact ⟨rfl, by rw [hU], by rw [hU]; exact hPc, va_K.moved hW.alike hK, hDc.weaken (fun _ _ _ _ => trivial), NK_warm hW hN⟩
  · obtain ⟨hP1, hK1, hD1⟩ := hB
    rw [ht] at hP1
    subst hpost
    exact kk H1 locs1 ls h1 (wj0 h2 h3 isC hC hk1 hP1) h3 hS
theorem G_calliA (F : GF k l R cc nL own D cB cI cJ) {y : MethodName} {bytes : ByteArray} {maxL n index : Nat} {ret : Option FieldType} {rm : Room} {As : List Value} {w0 w1 : va_W} {r : Int32} {q0 ci b : Nat} {fs : List Value} (hM : CoI l y (.code y bytes maxL ret :: AW) rm D cB cI cJ (.ref b :: As) w0 r w1) {rest : List Value} (isC : List Nat) (hC : isC.map (fun i => ws[i]?) = w0.map some) (hnd : va_nd isC = true) (ha : w1.map Prod.fst = w0.map Prod.fst) (hw : setsW ws isC w1 = ws') (he : ws[q0]? = some (b, .inr (ci, fs))) {x : MethodName} {owner C : String} (cv : Cond.methodLink own index x ∈ AW ∧ Cond.sameMethod x.cls owner x.name x.desc ∈ AW ∧ Cond.selects C x y ∈ AW ∧ Cond.instanceMethod y ∈ AW ∧ Cond.initialized y.cls ∈ AW ∧ Cond.code y bytes maxL ret ∈ AW ∧ (∃ (T : u_T) (N : Nat), zCl[ci]? = some (C, T, N)) ∧ Cond.declares ⟨owner, x.name, x.desc⟩ ∈ NW ∧ owner ≠ "java/lang/invoke/MethodHandle" ∧ owner ≠ "java/lang/invoke/VarHandle" ∧ (parseMethodDescriptor x.desc).map (fun d => d.parameters.length) = some n) (hrc : rm.cells = 0) (hrs : rm.slots = 0) (hR : rm.frames + 1 ≤ R.frames ∧ 8 + (maxL + 11) + rm.locals ≤ R.locals) (hf : cells ≤ R.cells ∧ slots ≤ R.slots) (hn : As.length = n) (h8 : (rest.map fun v => v.category).sum ≤ 8) (d : decode cc pc = .ok (.invokevirtual index, 3)) (hst : st = (As.reverse ++ .ref b :: rest)) (kk : G D nL k cells slots (pc + 3) L (.int r :: rest) ws') : G D nL k cells slots pc L st ws := by
  obtain ⟨p, l0, e, R0, s, m, args, below, meth, c, Q, A⟩ := k
  subst hst
  obtain ⟨c1, c2, c3, c4, c5, c6, ⟨T, N, hc⟩, hz, hd⟩ := cv
  obtain ⟨⟨hx, hb, hml, hown, hts⟩, hK, hN, rfl, rfl, hA⟩ := F
  have hT : GoodIn AW (va_wsU own index C owner x y (.code y bytes maxL ret :: AW)) := goodA (by
    intro w hw
    simp only [va_wsU, List.cons_append, List.nil_append, List.mem_cons] at hw
    rcases hw with rfl | rfl | rfl | rfl | rfl | rfl | hw <;> assumption)
  have cw := va_cwA (R := R) n hts hT rfl hrc hrs (hN _ hz) hd hR
  intro H locs ls h1 h2 h3 h4
  have hPc := h2.sub (ws' := w0) isC (map_fm hC)
  have hDc := h3.sub (ws' := w0) isC hnd hC
  have hFc := va_free (wc := w0) h3 h4 hA isC hC
  refine va_calli (va_runU (rest := rest) ⟨hx, hb, hml, hown, hts⟩ (hM H.size) cw ⟨KP_blind, va_recv hK h2 hc he, fun U hU hW => ?_⟩ rfl hn h1.1 rfl (lv_room h8) d hf) h4 (fun q _ h => hFc q h) hFc (fun r2 u t H1 locs1 ht hvm hpost hB hz1 hk1 hS => ?_)
  · exact ⟨rfl, by rw [hU], by rw [hU]; exact hPc, va_K.moved hW.alike hK, hDc.weaken (fun _ _ _ _ => trivial), NK_warm hW hN⟩
  · obtain ⟨hP1, hK1, hD1⟩ := hB
    rw [ht] at hP1
    subst hpost
    obtain ⟨hP2, hD2⟩ := wj h2 h3 isC hC ha hw hk1 hP1
    exact kk H1 locs1 ls h1 hP2 hD2 hS
theorem G_callvA0 (F : GF k l R cc nL own D cB cI cJ) {y : MethodName} {bytes : ByteArray} {maxL n index : Nat} {ret : Option FieldType} {rm : Room} {As : List Value} {w0 : va_W} {q0 ci b : Nat} {fs : List Value} (hM : CoV l y (.code y bytes maxL ret :: AW) rm D cB cI cJ (.ref b :: As) w0 w0) {rest : List Value} (isC : List Nat) (hC : isC.map (fun i => ws[i]?) = w0.map some) (hnd : va_nd isC = true) (he : ws[q0]? = some (b, .inr (ci, fs))) {x : MethodName} {owner C : String} (cv : Cond.methodLink own index x ∈ AW ∧ Cond.sameMethod x.cls owner x.name x.desc ∈ AW ∧ Cond.selects C x y ∈ AW ∧ Cond.instanceMethod y ∈ AW ∧ Cond.initialized y.cls ∈ AW ∧ Cond.code y bytes maxL ret ∈ AW ∧ (∃ (T : u_T) (N : Nat), zCl[ci]? = some (C, T, N)) ∧ Cond.declares ⟨owner, x.name, x.desc⟩ ∈ NW ∧ owner ≠ "java/lang/invoke/MethodHandle" ∧ owner ≠ "java/lang/invoke/VarHandle" ∧ (parseMethodDescriptor x.desc).map (fun d => d.parameters.length) = some n) (hrc : rm.cells = 0) (hrs : rm.slots = 0) (hR : rm.frames + 1 ≤ R.frames ∧ 8 + (maxL + 11) + rm.locals ≤ R.locals) (hf : cells ≤ R.cells ∧ slots ≤ R.slots) (hn : As.length = n) (h8 : (rest.map fun v => v.category).sum ≤ 8) (d : decode cc pc = .ok (.invokevirtual index, 3)) (hst : st = (As.reverse ++ .ref b :: rest)) (kk : G D nL k cells slots (pc + 3) L rest ws) : G D nL k cells slots pc L st ws := by
  obtain ⟨p, l0, e, R0, s, m, args, below, meth, c, Q, A⟩ := k
  subst hst
  obtain ⟨c1, c2, c3, c4, c5, c6, ⟨T, N, hc⟩, hz, hd⟩ := cv
  obtain ⟨⟨hx, hb, hml, hown, hts⟩, hK, hN, rfl, rfl, hA⟩ := F
  have hT : GoodIn AW (va_wsU own index C owner x y (.code y bytes maxL ret :: AW)) := goodA (by
    intro w hw
    simp only [va_wsU, List.cons_append, List.nil_append, List.mem_cons] at hw
    rcases hw with rfl | rfl | rfl | rfl | rfl | rfl | hw <;> assumption)
  have cw := va_cwA (R := R) n hts hT rfl hrc hrs (hN _ hz) hd hR
  intro H locs ls h1 h2 h3 h4
  have hPc := h2.sub (ws' := w0) isC (map_fm hC)
  have hDc := h3.sub (ws' := w0) isC hnd hC
  have hFc := va_free (wc := w0) h3 h4 hA isC hC
  refine va_callv (va_runU (rest := rest) ⟨hx, hb, hml, hown, hts⟩ (hM H.size) cw ⟨KP_blind, va_recv hK h2 hc he, fun U hU hW => ?_⟩ rfl hn h1.1 rfl (lv_room h8) d hf) h4 (fun q _ h => hFc q h) hFc (fun u t H1 locs1 ht hvm hpost hB hz1 hk1 hS => ?_)
  · exact ⟨rfl, by rw [hU], by rw [hU]; exact hPc, va_K.moved hW.alike hK, hDc.weaken (fun _ _ _ _ => trivial), NK_warm hW hN⟩
  · obtain ⟨hP1, hK1, hD1⟩ := hB
    rw [ht] at hP1
    exact kk H1 locs1 ls h1 (wj0 h2 h3 isC hC hk1 hP1) h3 hS
theorem G_callvA (F : GF k l R cc nL own D cB cI cJ) {y : MethodName} {bytes : ByteArray} {maxL n index : Nat} {ret : Option FieldType} {rm : Room} {As : List Value} {w0 w1 : va_W} {q0 ci b : Nat} {fs : List Value} (hM : CoV l y (.code y bytes maxL ret :: AW) rm D cB cI cJ (.ref b :: As) w0 w1) {rest : List Value} (isC : List Nat) (hC : isC.map (fun i => ws[i]?) = w0.map some) (hnd : va_nd isC = true) (ha : w1.map Prod.fst = w0.map Prod.fst) (hw : setsW ws isC w1 = ws') (he : ws[q0]? = some (b, .inr (ci, fs))) {x : MethodName} {owner C : String} (cv : Cond.methodLink own index x ∈ AW ∧ Cond.sameMethod x.cls owner x.name x.desc ∈ AW ∧ Cond.selects C x y ∈ AW ∧ Cond.instanceMethod y ∈ AW ∧ Cond.initialized y.cls ∈ AW ∧ Cond.code y bytes maxL ret ∈ AW ∧ (∃ (T : u_T) (N : Nat), zCl[ci]? = some (C, T, N)) ∧ Cond.declares ⟨owner, x.name, x.desc⟩ ∈ NW ∧ owner ≠ "java/lang/invoke/MethodHandle" ∧ owner ≠ "java/lang/invoke/VarHandle" ∧ (parseMethodDescriptor x.desc).map (fun d => d.parameters.length) = some n) (hrc : rm.cells = 0) (hrs : rm.slots = 0) (hR : rm.frames + 1 ≤ R.frames ∧ 8 + (maxL + 11) + rm.locals ≤ R.locals) (hf : cells ≤ R.cells ∧ slots ≤ R.slots) (hn : As.length = n) (h8 : (rest.map fun v => v.category).sum ≤ 8) (d : decode cc pc = .ok (.invokevirtual index, 3)) (hst : st = (As.reverse ++ .ref b :: rest)) (kk : G D nL k cells slots (pc + 3) L rest ws') : G D nL k cells slots pc L st ws := by
  obtain ⟨p, l0, e, R0, s, m, args, below, meth, c, Q, A⟩ := k
  subst hst
  obtain ⟨c1, c2, c3, c4, c5, c6, ⟨T, N, hc⟩, hz, hd⟩ := cv
  obtain ⟨⟨hx, hb, hml, hown, hts⟩, hK, hN, rfl, rfl, hA⟩ := F
  have hT : GoodIn AW (va_wsU own index C owner x y (.code y bytes maxL ret :: AW)) := goodA (by
    intro w hw
    simp only [va_wsU, List.cons_append, List.nil_append, List.mem_cons] at hw
    rcases hw with rfl | rfl | rfl | rfl | rfl | rfl | hw <;> assumption)
  have cw := va_cwA (R := R) n hts hT rfl hrc hrs (hN _ hz) hd hR
  intro H locs ls h1 h2 h3 h4
  have hPc := h2.sub (ws' := w0) isC (map_fm hC)
  have hDc := h3.sub (ws' := w0) isC hnd hC
  have hFc := va_free (wc := w0) h3 h4 hA isC hC
  refine va_callv (va_runU (rest := rest) ⟨hx, hb, hml, hown, hts⟩ (hM H.size) cw ⟨KP_blind, va_recv hK h2 hc he, fun U hU hW => ?_⟩ rfl hn h1.1 rfl (lv_room h8) d hf) h4 (fun q _ h => hFc q h) hFc (fun u t H1 locs1 ht hvm hpost hB hz1 hk1 hS => ?_)
  · exact ⟨rfl, by rw [hU], by rw [hU]; exact hPc, va_K.moved hW.alike hK, hDc.weaken (fun _ _ _ _ => trivial), NK_warm hW hN⟩
  · obtain ⟨hP1, hK1, hD1⟩ := hB
    rw [ht] at hP1
    obtain ⟨hP2, hD2⟩ := wj h2 h3 isC hC ha hw hk1 hP1
    exact kk H1 locs1 ls h1 hP2 hD2 hS
theorem G_calliS0 (F : GF k l R cc nL own D cB cI cJ) {y : MethodName} {bytes : ByteArray} {maxL n index : Nat} {ret : Option FieldType} {rm : Room} {As : List Value} {w0 : va_W} {r : Int32} (hM : CoI l y (.code y bytes maxL ret :: AW) rm D cB cI cJ As w0 r w0) {rest : List Value} (isC : List Nat) (hC : isC.map (fun i => ws[i]?) = w0.map some) (hnd : va_nd isC = true) (cv : Cond.methodLink own index y ∈ AW ∧ Cond.static y ∈ AW ∧ Cond.initialized own ∈ AW ∧ Cond.code y bytes maxL ret ∈ AW ∧ y.cls = own ∧ y.cls ≠ "java/lang/invoke/MethodHandle" ∧ y.cls ≠ "java/lang/invoke/VarHandle" ∧ (parseMethodDescriptor y.desc).map (fun d => d.parameters.length) = some n) (hrc : rm.cells = 0) (hrs : rm.slots = 0) (hR : rm.frames + 1 ≤ R.frames ∧ 8 + (maxL + 11) + rm.locals ≤ R.locals) (hf : cells ≤ R.cells ∧ slots ≤ R.slots) (hn : As.length = n) (h8 : (rest.map fun v => v.category).sum ≤ 8) (d : decode cc pc = .ok (.invokestatic index, 3)) (hst : st = (As.reverse ++ rest)) (kk : G D nL k cells slots (pc + 3) L (.int r :: rest) ws) : G D nL k cells slots pc L st ws := by
  obtain ⟨p, l0, e, R0, s, m, args, below, meth, c, Q, A⟩ := k
  subst hst
  obtain ⟨c1, c2, c3, c4, hd⟩ := cv
  obtain ⟨⟨hx, hb, hml, hown, hts⟩, hK, hN, rfl, rfl, hA⟩ := F
  have hT : GoodIn AW (wsS own index y (.code y bytes maxL ret :: AW)) := goodA (by
    intro w hw
    simp only [wsS, List.cons_append, List.nil_append, List.mem_cons] at hw
    rcases hw with rfl | rfl | rfl | rfl | hw <;> assumption)
  have cw := cwS (R := R) n hts hT rfl hrc hrs hd hR
  intro H locs ls h1 h2 h3 h4
  have hPc := h2.sub (ws' := w0) isC (map_fm hC)
  have hDc := h3.sub (ws' := w0) isC hnd hC
  have hFc := va_free (wc := w0) h3 h4 hA isC hC
  refine va_calli (va_runS (rest := rest) ⟨hx, hb, hml, hown, hts⟩ (hM H.size) cw ⟨KP_blind, fun U hU hW => ?_⟩ rfl hn h1.1 rfl (lv_room h8) d hf) h4 (fun q _ h => hFc q h) hFc (fun r2 u t H1 locs1 ht hvm hpost hB hz1 hk1 hS => ?_)
  · exact ⟨rfl, by rw [hU], by rw [hU]; exact hPc, va_K.moved hW.alike hK, hDc.weaken (fun _ _ _ _ => trivial), NK_warm hW hN⟩
  · obtain ⟨hP1, hK1, hD1⟩ := hB
    rw [ht] at hP1
    subst hpost
    exact kk H1 locs1 ls h1 (wj0 h2 h3 isC hC hk1 hP1) h3 hS
theorem G_calliS (F : GF k l R cc nL own D cB cI cJ) {y : MethodName} {bytes : ByteArray} {maxL n index : Nat} {ret : Option FieldType} {rm : Room} {As : List Value} {w0 w1 : va_W} {r : Int32} (hM : CoI l y (.code y bytes maxL ret :: AW) rm D cB cI cJ As w0 r w1) {rest : List Value} (isC : List Nat) (hC : isC.map (fun i => ws[i]?) = w0.map some) (hnd : va_nd isC = true) (ha : w1.map Prod.fst = w0.map Prod.fst) (hw : setsW ws isC w1 = ws') (cv : Cond.methodLink own index y ∈ AW ∧ Cond.static y ∈ AW ∧ Cond.initialized own ∈ AW ∧ Cond.code y bytes maxL ret ∈ AW ∧ y.cls = own ∧ y.cls ≠ "java/lang/invoke/MethodHandle" ∧ y.cls ≠ "java/lang/invoke/VarHandle" ∧ (parseMethodDescriptor y.desc).map (fun d => d.parameters.length) = some n) (hrc : rm.cells = 0) (hrs : rm.slots = 0) (hR : rm.frames + 1 ≤ R.frames ∧ 8 + (maxL + 11) + rm.locals ≤ R.locals) (hf : cells ≤ R.cells ∧ slots ≤ R.slots) (hn : As.length = n) (h8 : (rest.map fun v => v.category).sum ≤ 8) (d : decode cc pc = .ok (.invokestatic index, 3)) (hst : st = (As.reverse ++ rest)) (kk : G D nL k cells slots (pc + 3) L (.int r :: rest) ws') : G D nL k cells slots pc L st ws := by
  obtain ⟨p, l0, e, R0, s, m, args, below, meth, c, Q, A⟩ := k
  subst hst
  obtain ⟨c1, c2, c3, c4, hd⟩ := cv
  obtain ⟨⟨hx, hb, hml, hown, hts⟩, hK, hN, rfl, rfl, hA⟩ := F
  have hT : GoodIn AW (wsS own index y (.code y bytes maxL ret :: AW)) := goodA (by
    intro w hw
    simp only [wsS, List.cons_append, List.nil_append, List.mem_cons] at hw
    rcases hw with rfl | rfl | rfl | rfl | hw <;> assumption)
  have cw := cwS (R := R) n hts hT rfl hrc hrs hd hR
  intro H locs ls h1 h2 h3 h4
  have hPc := h2.sub (ws' := w0) isC (map_fm hC)
  have hDc := h3.sub (ws' := w0) isC hnd hC
  have hFc := va_free (wc := w0) h3 h4 hA isC hC
  refine va_calli (va_runS (rest := rest) ⟨hx, hb, hml, hown, hts⟩ (hM H.size) cw ⟨KP_blind, fun U hU hW => ?_⟩ rfl hn h1.1 rfl (lv_room h8) d hf) h4 (fun q _ h => hFc q h) hFc (fun r2 u t H1 locs1 ht hvm hpost hB hz1 hk1 hS => ?_)
  · exact ⟨rfl, by rw [hU], by rw [hU]; exact hPc, va_K.moved hW.alike hK, hDc.weaken (fun _ _ _ _ => trivial), NK_warm hW hN⟩
  · obtain ⟨hP1, hK1, hD1⟩ := hB
    rw [ht] at hP1
    subst hpost
    obtain ⟨hP2, hD2⟩ := wj h2 h3 isC hC ha hw hk1 hP1
    exact kk H1 locs1 ls h1 hP2 hD2 hS
theorem G_callvS0 (F : GF k l R cc nL own D cB cI cJ) {y : MethodName} {bytes : ByteArray} {maxL n index : Nat} {ret : Option FieldType} {rm : Room} {As : List Value} {w0 : va_W} (hM : CoV l y (.code y bytes maxL ret :: AW) rm D cB cI cJ As w0 w0) {rest : List Value} (isC : List Nat) (hC : isC.map (fun i => ws[i]?) = w0.map some) (hnd : va_nd isC = true) (cv : Cond.methodLink own index y ∈ AW ∧ Cond.static y ∈ AW ∧ Cond.initialized own ∈ AW ∧ Cond.code y bytes maxL ret ∈ AW ∧ y.cls = own ∧ y.cls ≠ "java/lang/invoke/MethodHandle" ∧ y.cls ≠ "java/lang/invoke/VarHandle" ∧ (parseMethodDescriptor y.desc).map (fun d => d.parameters.length) = some n) (hrc : rm.cells = 0) (hrs : rm.slots = 0) (hR : rm.frames + 1 ≤ R.frames ∧ 8 + (maxL + 11) + rm.locals ≤ R.locals) (hf : cells ≤ R.cells ∧ slots ≤ R.slots) (hn : As.length = n) (h8 : (rest.map fun v => v.category).sum ≤ 8) (d : decode cc pc = .ok (.invokestatic index, 3)) (hst : st = (As.reverse ++ rest)) (kk : G D nL k cells slots (pc + 3) L rest ws) : G D nL k cells slots pc L st ws := by
  obtain ⟨p, l0, e, R0, s, m, args, below, meth, c, Q, A⟩ := k
  subst hst
  obtain ⟨c1, c2, c3, c4, hd⟩ := cv
  obtain ⟨⟨hx, hb, hml, hown, hts⟩, hK, hN, rfl, rfl, hA⟩ := F
  have hT : GoodIn AW (wsS own index y (.code y bytes maxL ret :: AW)) := goodA (by
    intro w hw
    simp only [wsS, List.cons_append, List.nil_append, List.mem_cons] at hw
    rcases hw with rfl | rfl | rfl | rfl | hw <;> assumption)
  have cw := cwS (R := R) n hts hT rfl hrc hrs hd hR
  intro H locs ls h1 h2 h3 h4
  have hPc := h2.sub (ws' := w0) isC (map_fm hC)
  have hDc := h3.sub (ws' := w0) isC hnd hC
  have hFc := va_free (wc := w0) h3 h4 hA isC hC
  refine va_callv (va_runS (rest := rest) ⟨hx, hb, hml, hown, hts⟩ (hM H.size) cw ⟨KP_blind, fun U hU hW => ?_⟩ rfl hn h1.1 rfl (lv_room h8) d hf) h4 (fun q _ h => hFc q h) hFc (fun u t H1 locs1 ht hvm hpost hB hz1 hk1 hS => ?_)
  · exact ⟨rfl, by rw [hU], by rw [hU]; exact hPc, va_K.moved hW.alike hK, hDc.weaken (fun _ _ _ _ => trivial), NK_warm hW hN⟩
  · obtain ⟨hP1, hK1, hD1⟩ := hB
    rw [ht] at hP1
    exact kk H1 locs1 ls h1 (wj0 h2 h3 isC hC hk1 hP1) h3 hS
theorem G_callvS (F : GF k l R cc nL own D cB cI cJ) {y : MethodName} {bytes : ByteArray} {maxL n index : Nat} {ret : Option FieldType} {rm : Room} {As : List Value} {w0 w1 : va_W} (hM : CoV l y (.code y bytes maxL ret :: AW) rm D cB cI cJ As w0 w1) {rest : List Value} (isC : List Nat) (hC : isC.map (fun i => ws[i]?) = w0.map some) (hnd : va_nd isC = true) (ha : w1.map Prod.fst = w0.map Prod.fst) (hw : setsW ws isC w1 = ws') (cv : Cond.methodLink own index y ∈ AW ∧ Cond.static y ∈ AW ∧ Cond.initialized own ∈ AW ∧ Cond.code y bytes maxL ret ∈ AW ∧ y.cls = own ∧ y.cls ≠ "java/lang/invoke/MethodHandle" ∧ y.cls ≠ "java/lang/invoke/VarHandle" ∧ (parseMethodDescriptor y.desc).map (fun d => d.parameters.length) = some n) (hrc : rm.cells = 0) (hrs : rm.slots = 0) (hR : rm.frames + 1 ≤ R.frames ∧ 8 + (maxL + 11) + rm.locals ≤ R.locals) (hf : cells ≤ R.cells ∧ slots ≤ R.slots) (hn : As.length = n) (h8 : (rest.map fun v => v.category).sum ≤ 8) (d : decode cc pc = .ok (.invokestatic index, 3)) (hst : st = (As.reverse ++ rest)) (kk : G D nL k cells slots (pc + 3) L rest ws') : G D nL k cells slots pc L st ws := by
  obtain ⟨p, l0, e, R0, s, m, args, below, meth, c, Q, A⟩ := k
  subst hst
  obtain ⟨c1, c2, c3, c4, hd⟩ := cv
  obtain ⟨⟨hx, hb, hml, hown, hts⟩, hK, hN, rfl, rfl, hA⟩ := F
  have hT : GoodIn AW (wsS own index y (.code y bytes maxL ret :: AW)) := goodA (by
    intro w hw
    simp only [wsS, List.cons_append, List.nil_append, List.mem_cons] at hw
    rcases hw with rfl | rfl | rfl | rfl | hw <;> assumption)
  have cw := cwS (R := R) n hts hT rfl hrc hrs hd hR
  intro H locs ls h1 h2 h3 h4
  have hPc := h2.sub (ws' := w0) isC (map_fm hC)
  have hDc := h3.sub (ws' := w0) isC hnd hC
  have hFc := va_free (wc := w0) h3 h4 hA isC hC
  refine va_callv (va_runS (rest := rest) ⟨hx, hb, hml, hown, hts⟩ (hM H.size) cw ⟨KP_blind, fun U hU hW => ?_⟩ rfl hn h1.1 rfl (lv_room h8) d hf) h4 (fun q _ h => hFc q h) hFc (fun u t H1 locs1 ht hvm hpost hB hz1 hk1 hS => ?_)
  · exact ⟨rfl, by rw [hU], by rw [hU]; exact hPc, va_K.moved hW.alike hK, hDc.weaken (fun _ _ _ _ => trivial), NK_warm hW hN⟩
  · obtain ⟨hP1, hK1, hD1⟩ := hB
    rw [ht] at hP1
    obtain ⟨hP2, hD2⟩ := wj h2 h3 isC hC ha hw hk1 hP1
    exact kk H1 locs1 ls h1 hP2 hD2 hS
theorem G_mmax (F : GF k l R cc nL own D cB cI cJ) {index : Nat} {x y v : Int32} (cv : Cond.methodLink own index Lib.Math.max.name ∈ AW ∧ Cond.static Lib.Math.max.name ∈ AW ∧ Cond.initialized "java/lang/Math" ∈ AW ∧ Cond.code Lib.Math.max.name Lib.Math.max.code 2 (some .int) ∈ AW) (d : decode cc pc = .ok (.invokestatic index, 3)) (hv : v = if x < y then y else x) (hR : 1 ≤ R.frames ∧ 21 ≤ R.locals) (hf : cells ≤ R.cells ∧ slots ≤ R.slots) (h8 : (st.map fun v => v.category).sum ≤ 8) (kk : G D nL k cells slots (pc + 3) L (.int v :: st) ws) : G D nL k cells slots pc L (.int y :: .int x :: st) ws := by
  obtain ⟨p, l0, e, R0, s, m, args, below, meth, c, Q, A⟩ := k
  obtain ⟨c1, c2, c3, c4⟩ := cv
  obtain ⟨⟨hx, hb, hml, hown, hts⟩, hK, hN, rfl, rfl, hA⟩ := F
  subst hv
  intro H locs ls h1 h2 h3 h4
  exact va_mmax hx hb (hml.trans h1.1.symm) hown (hts _ c1) (hts _ c2) (hts _ c3) (hts _ c4) hR.1 (by omega) hf.1 hf.2 d (kk H locs ls h1 h2 h3 h4)
theorem G_mmin (F : GF k l R cc nL own D cB cI cJ) {index : Nat} {x y v : Int32} (cv : Cond.methodLink own index Lib.Math.min.name ∈ AW ∧ Cond.static Lib.Math.min.name ∈ AW ∧ Cond.initialized "java/lang/Math" ∈ AW ∧ Cond.code Lib.Math.min.name Lib.Math.min.code 2 (some .int) ∈ AW) (d : decode cc pc = .ok (.invokestatic index, 3)) (hv : v = if y < x then y else x) (hR : 1 ≤ R.frames ∧ 21 ≤ R.locals) (hf : cells ≤ R.cells ∧ slots ≤ R.slots) (h8 : (st.map fun v => v.category).sum ≤ 8) (kk : G D nL k cells slots (pc + 3) L (.int v :: st) ws) : G D nL k cells slots pc L (.int y :: .int x :: st) ws := by
  obtain ⟨p, l0, e, R0, s, m, args, below, meth, c, Q, A⟩ := k
  obtain ⟨c1, c2, c3, c4⟩ := cv
  obtain ⟨⟨hx, hb, hml, hown, hts⟩, hK, hN, rfl, rfl, hA⟩ := F
  subst hv
  intro H locs ls h1 h2 h3 h4
  exact va_mmin hx hb (hml.trans h1.1.symm) hown (hts _ c1) (hts _ c2) (hts _ c3) (hts _ c4) hR.1 (by omega) hf.1 hf.2 d (kk H locs ls h1 h2 h3 h4)
theorem G_tsw3 (F : GF k l R cc nL own D cB cI cJ) {x : Int32} {dflt o0 o1 o2 : Int} {len : Nat} (t0 t1 t2 td : Nat) (d : decode cc pc = .ok (.tableswitch dflt 0 2 #[o0, o1, o2], len)) (h0 : (pc : Int) + o0 = (t0 : Int)) (h1 : (pc : Int) + o1 = (t1 : Int)) (h2 : (pc : Int) + o2 = (t2 : Int)) (hd : (pc : Int) + dflt = (td : Int)) (k0 : x = 0 → G D nL k cells slots t0 L st ws) (k1 : ¬ x = 0 → x = 1 → G D nL k cells slots t1 L st ws) (k2 : ¬ x = 0 → ¬ x = 1 → x = 2 → G D nL k cells slots t2 L st ws) (kd : ¬ x = 0 → ¬ x = 1 → ¬ x = 2 → G D nL k cells slots td L st ws) : G D nL k cells slots pc L (.int x :: st) ws := by
  obtain ⟨p, l0, e, R0, s, m, args, below, meth, c, Q, A⟩ := k
  intro H locs ls g1 g2 g3 g4
  by_cases e0 : x = 0
  · refine lv_tableIn F.1.1 F.1.2.1 d (off := o0) (tgt := t0) ?_ ?_ ?_ h0 (k0  e0 H locs ls g1 g2 g3 g4)
    · rw [e0]; decide
    · rw [e0]; decide
    · rw [e0]; rfl
  by_cases e1 : x = 1
  · refine lv_tableIn F.1.1 F.1.2.1 d (off := o1) (tgt := t1) ?_ ?_ ?_ h1 (k1 e0 e1 H locs ls g1 g2 g3 g4)
    · rw [e1]; decide
    · rw [e1]; decide
    · rw [e1]; rfl
  by_cases e2 : x = 2
  · refine lv_tableIn F.1.1 F.1.2.1 d (off := o2) (tgt := t2) ?_ ?_ ?_ h2 (k2 e0 e1 e2 H locs ls g1 g2 g3 g4)
    · rw [e2]; decide
    · rw [e2]; decide
    · rw [e2]; rfl
  refine lv_tableOut F.1.1 F.1.2.1 d (tgt := td) ?_ hd (kd e0 e1 e2 H locs ls g1 g2 g3 g4)
  have f0 := lv_neT e0 (a := 0) (by decide)
  have f1 := lv_neT e1 (a := 1) (by decide)
  have f2 := lv_neT e2 (a := 2) (by decide)
  omega
theorem G_tsw9 (F : GF k l R cc nL own D cB cI cJ) {x : Int32} {dflt o0 o1 o2 o3 o4 o5 o6 o7 o8 : Int} {len : Nat} (t0 t1 t2 t3 t4 t5 t6 t7 t8 td : Nat) (d : decode cc pc = .ok (.tableswitch dflt 0 8 #[o0, o1, o2, o3, o4, o5, o6, o7, o8], len)) (h0 : (pc : Int) + o0 = (t0 : Int)) (h1 : (pc : Int) + o1 = (t1 : Int)) (h2 : (pc : Int) + o2 = (t2 : Int)) (h3 : (pc : Int) + o3 = (t3 : Int)) (h4 : (pc : Int) + o4 = (t4 : Int)) (h5 : (pc : Int) + o5 = (t5 : Int)) (h6 : (pc : Int) + o6 = (t6 : Int)) (h7 : (pc : Int) + o7 = (t7 : Int)) (h8 : (pc : Int) + o8 = (t8 : Int)) (hd : (pc : Int) + dflt = (td : Int)) (k0 : x = 0 → G D nL k cells slots t0 L st ws) (k1 : ¬ x = 0 → x = 1 → G D nL k cells slots t1 L st ws) (k2 : ¬ x = 0 → ¬ x = 1 → x = 2 → G D nL k cells slots t2 L st ws) (k3 : ¬ x = 0 → ¬ x = 1 → ¬ x = 2 → x = 3 → G D nL k cells slots t3 L st ws) (k4 : ¬ x = 0 → ¬ x = 1 → ¬ x = 2 → ¬ x = 3 → x = 4 → G D nL k cells slots t4 L st ws) (k5 : ¬ x = 0 → ¬ x = 1 → ¬ x = 2 → ¬ x = 3 → ¬ x = 4 → x = 5 → G D nL k cells slots t5 L st ws) (k6 : ¬ x = 0 → ¬ x = 1 → ¬ x = 2 → ¬ x = 3 → ¬ x = 4 → ¬ x = 5 → x = 6 → G D nL k cells slots t6 L st ws) (k7 : ¬ x = 0 → ¬ x = 1 → ¬ x = 2 → ¬ x = 3 → ¬ x = 4 → ¬ x = 5 → ¬ x = 6 → x = 7 → G D nL k cells slots t7 L st ws) (k8 : ¬ x = 0 → ¬ x = 1 → ¬ x = 2 → ¬ x = 3 → ¬ x = 4 → ¬ x = 5 → ¬ x = 6 → ¬ x = 7 → x = 8 → G D nL k cells slots t8 L st ws) (kd : ¬ x = 0 → ¬ x = 1 → ¬ x = 2 → ¬ x = 3 → ¬ x = 4 → ¬ x = 5 → ¬ x = 6 → ¬ x = 7 → ¬ x = 8 → G D nL k cells slots td L st ws) : G D nL k cells slots pc L (.int x :: st) ws := by
  obtain ⟨p, l0, e, R0, s, m, args, below, meth, c, Q, A⟩ := k
  intro H locs ls g1 g2 g3 g4
  by_cases e0 : x = 0
  · refine lv_tableIn F.1.1 F.1.2.1 d (off := o0) (tgt := t0) ?_ ?_ ?_ h0 (k0  e0 H locs ls g1 g2 g3 g4)
    · rw [e0]; decide
    · rw [e0]; decide
    · rw [e0]; rfl
  by_cases e1 : x = 1
  · refine lv_tableIn F.1.1 F.1.2.1 d (off := o1) (tgt := t1) ?_ ?_ ?_ h1 (k1 e0 e1 H locs ls g1 g2 g3 g4)
    · rw [e1]; decide
    · rw [e1]; decide
    · rw [e1]; rfl
  by_cases e2 : x = 2
  · refine lv_tableIn F.1.1 F.1.2.1 d (off := o2) (tgt := t2) ?_ ?_ ?_ h2 (k2 e0 e1 e2 H locs ls g1 g2 g3 g4)
    · rw [e2]; decide
    · rw [e2]; decide
    · rw [e2]; rfl
  by_cases e3 : x = 3
  · refine lv_tableIn F.1.1 F.1.2.1 d (off := o3) (tgt := t3) ?_ ?_ ?_ h3 (k3 e0 e1 e2 e3 H locs ls g1 g2 g3 g4)
    · rw [e3]; decide
    · rw [e3]; decide
    · rw [e3]; rfl
  by_cases e4 : x = 4
  · refine lv_tableIn F.1.1 F.1.2.1 d (off := o4) (tgt := t4) ?_ ?_ ?_ h4 (k4 e0 e1 e2 e3 e4 H locs ls g1 g2 g3 g4)
    · rw [e4]; decide
    · rw [e4]; decide
    · rw [e4]; rfl
  by_cases e5 : x = 5
  · refine lv_tableIn F.1.1 F.1.2.1 d (off := o5) (tgt := t5) ?_ ?_ ?_ h5 (k5 e0 e1 e2 e3 e4 e5 H locs ls g1 g2 g3 g4)
    · rw [e5]; decide
    · rw [e5]; decide
    · rw [e5]; rfl
  by_cases e6 : x = 6
  · refine lv_tableIn F.1.1 F.1.2.1 d (off := o6) (tgt := t6) ?_ ?_ ?_ h6 (k6 e0 e1 e2 e3 e4 e5 e6 H locs ls g1 g2 g3 g4)
    · rw [e6]; decide
    · rw [e6]; decide
    · rw [e6]; rfl
  by_cases e7 : x = 7
  · refine lv_tableIn F.1.1 F.1.2.1 d (off := o7) (tgt := t7) ?_ ?_ ?_ h7 (k7 e0 e1 e2 e3 e4 e5 e6 e7 H locs ls g1 g2 g3 g4)
    · rw [e7]; decide
    · rw [e7]; decide
    · rw [e7]; rfl
  by_cases e8 : x = 8
  · refine lv_tableIn F.1.1 F.1.2.1 d (off := o8) (tgt := t8) ?_ ?_ ?_ h8 (k8 e0 e1 e2 e3 e4 e5 e6 e7 e8 H locs ls g1 g2 g3 g4)
    · rw [e8]; decide
    · rw [e8]; decide
    · rw [e8]; rfl
  refine lv_tableOut F.1.1 F.1.2.1 d (tgt := td) ?_ hd (kd e0 e1 e2 e3 e4 e5 e6 e7 e8 H locs ls g1 g2 g3 g4)
  have f0 := lv_neT e0 (a := 0) (by decide)
  have f1 := lv_neT e1 (a := 1) (by decide)
  have f2 := lv_neT e2 (a := 2) (by decide)
  have f3 := lv_neT e3 (a := 3) (by decide)
  have f4 := lv_neT e4 (a := 4) (by decide)
  have f5 := lv_neT e5 (a := 5) (by decide)
  have f6 := lv_neT e6 (a := 6) (by decide)
  have f7 := lv_neT e7 (a := 7) (by decide)
  have f8 := lv_neT e8 (a := 8) (by decide)
  omega
end GR2
