-- ===== the judgement: a method's frame over the abstract memory; a method's contract =====
def fs_B : List Cond := lw_tbl.filter goodWord
def fs_isN (w : Cond) : Bool := match w with
  | .fieldLinkNest .. => true
  | .methodLinkNest .. => true
  | _ => false
def fs_NW : List Cond := tables_1.filter fs_isN
theorem fs_inB (i : Nat) {w : Cond} (h : lw_tbl[i]? = some w) (hg : goodWord w = true) : w ∈ fs_B := List.mem_filter.mpr ⟨List.mem_of_getElem? h, hg⟩
theorem fs_inN (i : Nat) {w : Cond} (h : tables_1[i]? = some w) (hg : fs_isN w = true) : w ∈ fs_NW := List.mem_filter.mpr ⟨List.mem_of_getElem? h, hg⟩
theorem fs_goodB {w : Cond} (h : w ∈ fs_B) : (w.onTables && w.keeps) = true ∨ ∃ ty, w = .arrayClass ty := good_of_word (List.mem_filter.mp h).2
theorem fs_NW_warm {s U : State} (hW : s.WarmedH U.vm) {w : Cond} (hw : w ∈ fs_NW) (h : va_Nw w s) : va_Nw w U := by
  have hn := (List.mem_filter.mp hw).2
  cases w with
  | fieldLinkNest a i b n d h => exact va_Nw.warmF hW h
  | methodLinkNest a i x h => exact va_Nw.warmM hW h
  | _ => cases hn
-- the worlds
def fs_isO (ci : Nat) (o : Int) : Prop := 0 ≤ o ∧ fs_kinds[o.toNat]? = some (.inl ci)
def fs_isA (ty n : Nat) (o : Int) : Prop := 0 ≤ o ∧ fs_kinds[o.toNat]? = some (.inr (ty, n))
def fs_pay (g : fs_G) (ty : Nat) (r : Int → Int) : (Nat → Int32) ⊕ (Nat → Int64) ⊕ (Nat → UInt32) ⊕ (Nat → UInt64) ⊕ (Nat → Option Nat) := match ty with
  | 0 => .inl (fun j => Int32.ofInt (r j))
  | 1 => .inl (fun j => Int32.ofInt (r j))
  | 2 => .inr (.inl (fun j => Int64.ofInt (r j)))
  | _ => .inr (.inr (.inr (.inr (fun j => fs_ro g (r j)))))
def fs_row (g : fs_G) (ci : Nat) (r : Int → Int) : List Value := (List.range (fs_nf ci)).map (fun k => fs_f g (fs_ft ci k) (r k))
def fs_cell (g : fs_G) (o : Nat) (r : Int → Int) : va_E := match fs_kinds[o]? with
  | some (.inl ci) => .inr (ci, fs_row g ci r)
  | some (.inr (ty, n)) => .inl (g_tc g ty, n, fs_pay g ty r)
  | none => .inr (0, [])
def fs_W (g : fs_G) (n : Nat) (M : fs_M) : va_W := (List.range n).map (fun o => (g_sz g + o, fs_cell g o (M o)))
theorem fs_W_get {g : fs_G} {n : Nat} {M : fs_M} {o : Nat} (h : o < n) : (fs_W g n M)[o]? = some (g_sz g + o, fs_cell g o (M o)) := by
  simp [fs_W, h]
theorem fs_W_O {g : fs_G} {n : Nat} {M : fs_M} {ci : Nat} {o : Int} (h : fs_isO ci o) (hn : o.toNat < n) : (fs_W g n M)[o.toNat]? = some (g_sz g + o.toNat, .inr (ci, fs_row g ci (M o))) := by
  rw [fs_W_get hn]
  have e : ((o.toNat : Nat) : Int) = o := Int.toNat_of_nonneg h.1
  simp [fs_cell, h.2, e]
theorem fs_W_A {g : fs_G} {n : Nat} {M : fs_M} {ty k : Nat} {o : Int} (h : fs_isA ty k o) (hn : o.toNat < n) : (fs_W g n M)[o.toNat]? = some (g_sz g + o.toNat, .inl (g_tc g ty, k, fs_pay g ty (M o))) := by
  rw [fs_W_get hn]
  have e : ((o.toNat : Nat) : Int) = o := Int.toNat_of_nonneg h.1
  simp [fs_cell, h.2, e]
theorem fs_W_set {g : fs_G} {n : Nat} {M : fs_M} {o k v : Int} (h : 0 ≤ o) : fs_W g n (fs_st M o k v) = (fs_W g n M).set o.toNat (g_sz g + o.toNat, fs_cell g o.toNat (fs_st M o k v o)) := by
  have e : ((o.toNat : Nat) : Int) = o := Int.toNat_of_nonneg h
  apply List.ext_getElem?
  intro i
  by_cases hi : i < n
  · rw [fs_W_get hi]
    by_cases hio : i = o.toNat
    · subst hio
      rw [List.getElem?_set_self (by simp [fs_W]; exact hi), e]
    · rw [List.getElem?_set_ne (fun q => hio q.symm), fs_W_get hi]
      have hne : ¬ (i : Int) = o := fun q => hio (by omega)
      have : fs_st M o k v (i : Int) = M (i : Int) := by
        funext b
        simp [fs_st, hne]
      rw [this]
  · have h1 : (fs_W g n (fs_st M o k v))[i]? = none := by
      apply List.getElem?_eq_none
      simp [fs_W]; omega
    have h2 : ((fs_W g n M).set o.toNat (g_sz g + o.toNat, fs_cell g o.toNat (fs_st M o k v o)))[i]? = none := by
      apply List.getElem?_eq_none
      simp [fs_W]; omega
    rw [h1, h2]
def fs_A (g : fs_G) : Nat → Prop := fun q => g_sz g ≤ q
theorem fs_W_D {g : fs_G} {n : Nat} {M : fs_M} : va_D (fs_A g) (fs_W g n M) := by
  have key : ∀ (k : Nat) (q : Nat × va_E), (fs_W g n M)[k]? = some q → q.1 = g_sz g + k := by
    intro k q hk
    have hk' : k < n := by
      have := (List.getElem?_eq_some_iff.mp hk).1
      simpa [fs_W] using this
    rw [fs_W_get hk'] at hk
    cases hk
    rfl
  refine ⟨fun i j x y hi hj hxy => ?_, fun k q hk => ?_⟩
  · have h1 := key i x hi
    have h2 := key j y hj
    omega
  · rw [key k q hk]
    exact Nat.le_add_right _ _
def fs_isL (o k : Int) : Bool := if o < 0 then false else match fs_kinds[o.toNat]? with
  | some (.inl ci) => decide (ci = 3 ∧ k = 6)
  | some (.inr (ty, _)) => decide (ty = 2)
  | none => false
def fs_rng (M : fs_M) : Prop := ∀ o k : Int, if fs_isL o k = true then fs_in64 (M o k) else fs_in32 (M o k)
def fs_tys (g : fs_G) : List (ClassId × FieldType) := (List.range 8).map (fun k => (g_tc g k, fs_at k))
theorem fs_tys_get {g : fs_G} {k : Nat} (h : k < 8) : (fs_tys g)[k]? = some (g_tc g k, fs_at k) := by
  simp [fs_tys, h]
abbrev fs_D : Type := MethodName × ByteArray × Nat × Option FieldType
/-- a class's facts: its fields' words, types, names -/
def fs_KC (ci : Nat) (C : String) (T : u_T) (N : Nat) (ty : Nat → FieldType) : Prop :=
  fs_cl[ci]? = some (C, T, N) ∧ (∀ w ∈ u_ws C T N, w ∈ fs_B) ∧ (∀ k, k < N → parseFieldDescriptor (T k).2.2.1 = some (ty k)) ∧ (∀ a, a < N → ∀ b, b < N → a ≠ b → (T a).2.1 ≠ (T b).2.1) ∧ fs_nf ci = N ∧ (∀ k, fs_ft ci k = ty k) ∧ (∀ k, k < N → (fs_ft ci k = .long ↔ (ci = 3 ∧ k = 6)))
/-- a field by a class's own entry: class, place, whether final -/
def fs_FL (own : String) (idx ci k : Nat) (fin : Bool) : Prop := ∃ (C : String) (T : u_T) (N : Nat) (ty : Nat → FieldType), fs_KC ci C T N ty ∧ k < N ∧ (T k).2.2.2 = fin ∧ (T k).1 = C ∧
  (Cond.fieldLink own idx (T k).1 (T k).2.1 (T k).2.2.1 ∈ fs_B ∨ ∃ host, Cond.fieldLinkNest own idx (T k).1 (T k).2.1 (T k).2.2.1 host ∈ fs_NW)
def fs_ML (own : String) (idx : Nat) (x : MethodName) : Prop := Cond.methodLink own idx x ∈ fs_B ∨ ∃ host, Cond.methodLinkNest own idx x host ∈ fs_NW
/-- a method's facts: its code's word, its class, its arguments -/
def fs_MK (mc : fs_D) (n : Nat) : Prop := Cond.code mc.1 mc.2.1 mc.2.2.1 mc.2.2.2 ∈ fs_B ∧ Cond.initialized mc.1.cls ∈ fs_B ∧ mc.1.cls ≠ "java/lang/invoke/MethodHandle" ∧ mc.1.cls ≠ "java/lang/invoke/VarHandle" ∧ (parseMethodDescriptor mc.1.desc).map (fun d => d.parameters.length) = some n ∧ mc.2.2.1 ≤ 40
def fs_MV (mc : fs_D) : Prop := Cond.instanceMethod mc.1 ∈ fs_B ∧ Cond.selects mc.1.cls mc.1 mc.1 ∈ fs_B
