-- ===== count =====
/-- how many of the first n are done -/
def fs_cm (S : fs_M) : Nat → Int
  | 0 => 0
  | n + 1 => fs_cm S n + (if S 7 n = -1 then 0 else 1)
theorem fs_cm_sum {S x : fs_M} {y : Int} : ∀ (n : Nat), (∀ h : Int, 0 ≤ h → h < n → (fs_bit y h = 1 ↔ S 7 h = -1)) → fs_cm S n = n - fs_sum (fun _ => 1) (fs_bit y) n
  | 0, _ => rfl
  | n + 1, hy => by
    have ih := fs_cm_sum (S := S) (x := x) (y := y) n (fun h h0 h1 => hy h h0 (by omega))
    have e := hy n (by omega) (by omega)
    have e1 : fs_cm S (n + 1) = fs_cm S n + (if S 7 n = -1 then 0 else 1) := rfl
    have e2 : fs_sum (fun _ => 1) (fs_bit y) (n + 1) = fs_sum (fun _ => 1) (fs_bit y) n + (if fs_bit y n = 1 then 1 else 0) := rfl
    rw [e1, e2, ih]
    by_cases c : S 7 n = -1
    · rw [if_pos c, if_pos (e.mpr c)]
      omega
    · rw [if_neg c, if_neg (fun z => c (e.mp z))]
      omega
section OPSH
variable {g : fs_G} {M : fs_M}
theorem op_count {a : Int} (h : fs_Rl M) : fs_C2 g m_Fs_count 9 [fs_r 0, fs_i a] M (fs_KK g m_Mo_count 9 [fs_r 226, fs_i a]) := by
  have hB := h.1
  have hT := h.2.1
  have r0 := hT.1
  have r1 := hT.2.1
  have h6 := hB.2.1
  have h5 := hB.1
  have nm := h.2.2.2.1.2.2
  have hp := h.2.2.2.2.1
  have e38 := hp.2.2.2.2.1
  have ng := h.2.2.2.2.2.2.2.1.2.1
  have t := h.2.2.2.2.2.2.2.2.1
  have t1 := t.1
  have t2 := t.2.1
  have s : ∀ o k, ¬ (o = 226 ∧ k = 0) → fs_st M 226 0 0 o k = M o k := fun o k q => by
    by_cases c : o = 226
    · exact fs_st_k (by omega)
    · exact fs_st_o c
  -- the model's answer, asked for anything but 3
  have mo : ∀ v : Int, a ≠ 3 → (a = 0 → v = M 1 5) → (a = 1 → v = M 1 9) → (a = 2 → v = M 9 2) → (a = 4 → v = M 90 4) → (a = 5 → (M 90 5 = -1 → v = M 90 4) ∧ (¬ M 90 5 = -1 → v = M 90 5)) → (a = 6 → v = M 95 2) → (a = 7 → v = M 54 2) → (¬ a = 0 ∧ ¬ a = 1 ∧ ¬ a = 2 ∧ ¬ a = 3 ∧ ¬ a = 4 ∧ ¬ a = 5 ∧ ¬ a = 6 ∧ ¬ a = 7 → v = -1) → fs_C2 g m_Mo_count 9 [fs_r 226, fs_i a] M (fun v2 M2 => v2 = some (fs_i v) ∧ fs_Rl M2) := by
    intro v n3 w0 w1 w2 w4 w5 w6 w7 w8
    refine E_Mo_count ⟨fun z => ⟨by rw [w0 z, r0], h.thr⟩, fun z => ⟨by rw [w1 z, r1], h.thr⟩, fun z => ⟨by rw [w2 z, nm.1], h.thr⟩, fun z => absurd z n3, fun z => ⟨by rw [w4 z, t1], h.thr⟩, fun z => E_Mo_knownMany ?_, fun z => ⟨by rw [w6 z, e38], h.thr⟩, fun z => ⟨by rw [w7 z, ng], h.thr⟩, fun z => ⟨by rw [w8 z], h.thr⟩⟩
    rw [s 226 69 (by omega), s 226 68 (by omega), ← t1, ← t2]
    exact ⟨fun c => ⟨_, rfl, by rw [(w5 z).2 c], h.thr⟩, fun c => ⟨_, rfl, by rw [(w5 z).1 c], h.thr⟩⟩
  refine E_Fs_count ⟨fun z => ⟨_, rfl, mo _ (by omega) (fun _ => rfl) (fun c => absurd c (by omega)) (fun c => absurd c (by omega)) (fun c => absurd c (by omega)) (fun c => absurd c (by omega)) (fun c => absurd c (by omega)) (fun c => absurd c (by omega)) (fun c => absurd c (by omega))⟩,
    fun z => ⟨_, rfl, mo _ (by omega) (fun c => absurd c (by omega)) (fun _ => rfl) (fun c => absurd c (by omega)) (fun c => absurd c (by omega)) (fun c => absurd c (by omega)) (fun c => absurd c (by omega)) (fun c => absurd c (by omega)) (fun c => absurd c (by omega))⟩,
    fun z => ⟨_, rfl, mo _ (by omega) (fun c => absurd c (by omega)) (fun c => absurd c (by omega)) (fun _ => rfl) (fun c => absurd c (by omega)) (fun c => absurd c (by omega)) (fun c => absurd c (by omega)) (fun c => absurd c (by omega)) (fun c => absurd c (by omega))⟩,
    fun z => ?_,
    fun z => ⟨_, rfl, mo _ (by omega) (fun c => absurd c (by omega)) (fun c => absurd c (by omega)) (fun c => absurd c (by omega)) (fun _ => rfl) (fun c => absurd c (by omega)) (fun c => absurd c (by omega)) (fun c => absurd c (by omega)) (fun c => absurd c (by omega))⟩,
    fun z => E_Tracks_knownLength ⟨fun k => ⟨_, rfl, _, rfl, mo _ (by omega) (fun c => absurd c (by omega)) (fun c => absurd c (by omega)) (fun c => absurd c (by omega)) (fun c => absurd c (by omega)) (fun _ => ⟨fun c => absurd c k, fun _ => rfl⟩) (fun c => absurd c (by omega)) (fun c => absurd c (by omega)) (fun c => absurd c (by omega))⟩, fun k => ⟨_, rfl, _, rfl, mo _ (by omega) (fun c => absurd c (by omega)) (fun c => absurd c (by omega)) (fun c => absurd c (by omega)) (fun c => absurd c (by omega)) (fun _ => ⟨fun _ => rfl, fun c => absurd k c⟩) (fun c => absurd c (by omega)) (fun c => absurd c (by omega)) (fun c => absurd c (by omega))⟩⟩,
    fun z => ⟨_, rfl, mo _ (by omega) (fun c => absurd c (by omega)) (fun c => absurd c (by omega)) (fun c => absurd c (by omega)) (fun c => absurd c (by omega)) (fun c => absurd c (by omega)) (fun _ => rfl) (fun c => absurd c (by omega)) (fun c => absurd c (by omega))⟩,
    fun z => ⟨_, rfl, mo _ (by omega) (fun c => absurd c (by omega)) (fun c => absurd c (by omega)) (fun c => absurd c (by omega)) (fun c => absurd c (by omega)) (fun c => absurd c (by omega)) (fun c => absurd c (by omega)) (fun _ => rfl) (fun c => absurd c (by omega))⟩,
    fun z => ⟨_, rfl, mo _ (by omega) (fun c => absurd c z.1) (fun c => absurd c z.2.1) (fun c => absurd c z.2.2.1) (fun c => absurd c z.2.2.2.2.1) (fun c => absurd c z.2.2.2.2.2.1) (fun c => absurd c z.2.2.2.2.2.2.1) (fun c => absurd c z.2.2.2.2.2.2.2) (fun _ => rfl)⟩⟩
  refine oc_which hB hp.2.2.2.2.2.1 (fun M1 o1 => ⟨_, rfl, ?_⟩)
  have ev : fs_vWhich M 1 = fs_col (fs_wcP M (fs_Xm M 240).2 1) (M 1 5).toNat := by
    unfold fs_vWhich
    rw [if_neg (by omega)]
  have cb := fs_col_b (fs_wcP M (fs_Xm M 240).2 1) (M 1 5).toNat (by omega)
  have c64 := fs_p2_64 (n := ((M 1 5).toNat : Int)) (by omega)
  rw [ev]
  refine sp_bitCount cb.1 (by omega) ⟨_, rfl, _, rfl, ?_⟩
  have bw : ∀ i : Int, 0 ≤ i → i < (M 1 5).toNat → (fs_bit (fs_col (fs_wcP M (fs_Xm M 240).2 1) (M 1 5).toNat) i = 1 ↔ (fs_Xm M 240).2 7 i = -1) := fun i i0 i1 => by
    rw [fs_col_bit i0 (by omega) (M 1 5).toNat (by omega)]
    have e : fs_wcP M (fs_Xm M 240).2 1 i = if (fs_Xm M 240).2 7 i = -1 then 1 else 0 := by
      unfold fs_wcP
      rw [if_neg (by decide), if_pos rfl]
    rw [e]
    constructor
    · intro z
      by_cases c : (fs_Xm M 240).2 7 i = -1
      · exact c
      · rw [if_neg c] at z
        exact absurd z.2 (by decide)
    · intro z
      rw [if_pos z]
      exact ⟨i1, rfl⟩
  have ps := fs_pop_sum (x := fs_col (fs_wcP M (fs_Xm M 240).2 1) (M 1 5).toNat) (n := (M 1 5).toNat) (by omega) cb.1 (by omega) (fun i i0 i1 z => ((fs_col_bit i0 i1 (M 1 5).toNat (by omega)).mp z).1)
  have cs := fs_cm_sum (S := (fs_Xm M 240).2) (x := M) (M 1 5).toNat bw
  have e15 : M1 1 5 = M 1 5 := o1 1 5 (by unfold fs_F5 fs_F2; omega)
  have cmb : ∀ n : Nat, 0 ≤ fs_cm (fs_Xm M 240).2 n ∧ fs_cm (fs_Xm M 240).2 n ≤ n := by
    intro n
    induction n with
    | zero => exact ⟨Int.le_refl 0, Int.le_refl 0⟩
    | succ n ih =>
      have e1 : fs_cm (fs_Xm M 240).2 (n + 1) = fs_cm (fs_Xm M 240).2 n + (if (fs_Xm M 240).2 7 n = -1 then 0 else 1) := rfl
      rw [e1]
      split <;> omega
  have cmn := cmb (M 1 5).toNat
  have ans : fs_w32 (M 1 5 - fs_pop (fs_col (fs_wcP M (fs_Xm M 240).2 1) (M 1 5).toNat)) = fs_cm (fs_Xm M 240).2 (M 1 5).toNat := by
    rw [ps, fs_w32_of (by omega) (by omega)]
    omega
  rw [ans]
  clear mo cs ps bw cb c64 ans
  refine E_Mo_count ⟨fun c => absurd c (by omega), fun c => absurd c (by omega), fun c => absurd c (by omega), fun _ => ?_, fun c => absurd c (by omega), fun c => absurd c (by omega), fun c => absurd c (by omega), fun c => absurd c (by omega), fun c => absurd z c.2.2.2.1⟩
  refine sp_runNow hB hT hp.2.2.2.2.2.1 (fs_st0 (fs_sup_env2 (fs_sup_of o1 fs_n5))) (by omega) (fun M2 o2 _ _ r2 => ⟨rfl, ?_⟩)
  have fin : fs_Rl M2 := h.two o1 (fs_out0.tr (o2.wk (fun _ _ => fs_F9_FM))) fs_n5 fs_nM
  have e228 : M2 228 0 = M 1 5 := by rw [r2.1 228 0 (by unfold fs_eC; omega), r0]
  have loop : ∀ (n : Nat) (i : Int), 0 ≤ i → i ≤ M 1 5 → M 1 5 - i = n → fs_A2 g m_Mo_count 9 90 [(0, fs_r 226), (2, fs_i (fs_cm (fs_Xm M 240).2 i.toNat)), (3, fs_i i)] [] M2 (fun v2 M2 => v2 = some (fs_i (fs_cm (fs_Xm M 240).2 (M 1 5).toNat)) ∧ fs_Rl M2) := by
    intro n
    induction n with
    | zero =>
      intro i i0 i1 hn
      refine L_Mo_count_90 ⟨fun _ => ⟨by rw [show i = M 1 5 by omega], fin⟩, fun w => absurd w (by omega)⟩
    | succ n ih =>
      intro i i0 i1 hn
      obtain ⟨s7, s8⟩ := r2.2.2.2.2.2.1 i i0 (by omega)
      have nx := ih (i + 1) (by omega) (by omega) (by omega)
      have cb := cmb i.toNat
      have ec : fs_cm (fs_Xm M 240).2 (i + 1).toNat = fs_cm (fs_Xm M 240).2 i.toNat + (if (fs_Xm M 240).2 7 i = -1 then 0 else 1) := by
        rw [show (i + 1).toNat = i.toNat + 1 by omega]
        show fs_cm (fs_Xm M 240).2 i.toNat + (if (fs_Xm M 240).2 7 (i.toNat : Int) = -1 then 0 else 1) = _
        rw [show ((i.toNat : Nat) : Int) = i by omega]
      rw [ec] at nx
      refine L_Mo_count_90 ⟨fun w => absurd w (by omega), fun _ => ⟨i0, by omega, fun nd => ?_, fun yd => ?_⟩⟩
      · rw [s7] at nd
        rw [if_neg nd] at nx
        rw [fs_w32_of (x := i + 1) (by omega) (by omega), fs_w32_of (x := fs_cm (fs_Xm M 240).2 i.toNat + 1) (by omega) (by omega)]
        exact nx
      · rw [s7] at yd
        rw [if_pos yd] at nx
        rw [fs_w32_of (x := i + 1) (by omega) (by omega), fs_w32_of (x := fs_cm (fs_Xm M 240).2 i.toNat + 0) (by omega) (by omega)]
        exact nx
  exact loop (M 1 5).toNat 0 (by omega) (by omega) (by omega)
end OPSH
