-- ===== done, where, gain, after, which =====
def fs_FM (o k : Int) : Prop := fs_F9 o k ∨ (o = 226 ∧ k = 0)
theorem fs_F9_FM {o k : Int} (h : fs_F9 o k) : fs_FM o k := Or.inl h
theorem fs_X0_I {E : fs_M} (hB : fs_bE E) (hp : fs_rp E 31 0) : fs_rI E (fs_X0 E) := fs_bR.start hB hp.bP.rows
theorem fs_X0_t {E : fs_M} (hp : fs_rp E 31 0) : fs_tot (fs_X0 E) ≤ 27 := hp.bP.rows.tot
theorem fs_Xm_I {E : fs_M} {m : Int} (hB : fs_bE E) (hp : fs_rp E 31 0) (hm : m ≤ 240) : fs_rI E (fs_Xm E m) := (fs_X0_I hB hp).go hB hm 27
theorem fs_S0_7 {E : fs_M} {tr : Int} {al : Int → Int} {R : Int → List Int} (i : Int) : -2 ≤ fs_S0 E tr al R 7 i := by
  have e7 : fs_S0 E tr al R 7 i = (if 0 ≤ i ∧ i < 6 ∧ ¬ al i = 0 then -2 else -1) := rfl
  rw [e7]
  split <;> omega
theorem fs_Xm_7 {E : fs_M} {m : Int} (hB : fs_bE E) (hp : fs_rp E 31 0) (hm : m ≤ 240) : ∀ i, -2 ≤ (fs_Xm E m).2 7 i :=
  fs_go_ind (fun X => ∀ i, -2 ≤ X.2 7 i) hB hm (fun X _ h _ => fs_step_7 (by decide) h) 27 _ (fs_X0_I hB hp) (fun i => fs_S0_7 (E := E) (tr := -1) (R := fs_rows E E 31) i)
theorem fs_Xm_9 {E : fs_M} {m : Int} (hB : fs_bE E) (hp : fs_rp E 31 0) (hm : m ≤ 240) : 0 ≤ (fs_Xm E m).2 9 0 ∧ (fs_Xm E m).2 9 0 < fs_p2 (E 1 5) :=
  fs_go_ind (fun X => 0 ≤ X.2 9 0 ∧ X.2 9 0 < fs_p2 (E 1 5)) hB hm (fun X iX h c => fs_step_9 hB hm iX c h) 27 _ (fs_X0_I hB hp) (by
    have e : (fs_X0 E).2 9 0 = 0 := rfl
    rw [e]
    have m0 := fs_p2_mono (a := 0) (b := E 1 5) hB.1
    have : fs_p2 0 = 1 := rfl
    omega)
def fs_gnOf (E S : fs_M) (hv h : Int) : Int := if S 7 h = -1 ∨ S 7 h = -3 then 0 else if S 8 h ≤ E 5 h then (if 0 ≤ S 7 h ∧ fs_bit hv h = 1 then fs_div (E 4 h) 2 else E 4 h) else 0
def fs_gain (E S : fs_M) (hv : Int) : Nat → Int
  | 0 => 0
  | n + 1 => fs_gain E S hv n + fs_gnOf E S hv n
theorem fs_div2 : ∀ v : Fin 100, fs_div (v.val : Int) 2 = ((v.val / 2 : Nat) : Int) := by decide +kernel
theorem fs_div2b {v : Int} (h0 : 0 ≤ v) (h1 : v ≤ 99) : 0 ≤ fs_div v 2 ∧ fs_div v 2 ≤ 99 := by
  have r := fs_div2 ⟨v.toNat, by omega⟩
  dsimp only at r
  rw [show ((v.toNat : Nat) : Int) = v by omega] at r
  rw [r]
  omega
theorem fs_gnOf_b {E S : fs_M} {hv h : Int} (h0 : 0 ≤ E 4 h) (h1 : E 4 h ≤ 99) : 0 ≤ fs_gnOf E S hv h ∧ fs_gnOf E S hv h ≤ 99 := by
  have := fs_div2b h0 h1
  unfold fs_gnOf
  split
  · omega
  · split
    · split <;> omega
    · omega
theorem fs_gain_b {E S : fs_M} {hv : Int} (hB : fs_bE E) : ∀ (n : Nat), (n : Int) ≤ E 1 5 → 0 ≤ fs_gain E S hv n ∧ fs_gain E S hv n ≤ 99 * n
  | 0, _ => ⟨Int.le_refl 0, by show (0 : Int) ≤ 99 * 0; decide⟩
  | n + 1, h => by
    have a := fs_gain_b (S := S) (hv := hv) hB n (by omega)
    have w := hB.2.2.2.2.1 n (by omega) (by omega)
    have b := fs_gnOf_b (S := S) (hv := hv) w.2.2.1 w.2.2.2.1
    unfold fs_gain
    omega
section PLAIN
variable {g : fs_G}
theorem sp_isDone {M : fs_M} {K : fs_K} {h : Int} (h0 : 0 ≤ h) (h6 : h < 6) (a : 0 ≤ M 49 h ∨ M 49 h = -2 → K (some (fs_i 1)) M) (b : ¬ (0 ≤ M 49 h ∨ M 49 h = -2) → K (some (fs_i 0)) M) : fs_C2 g m_Course_isDone 1 [fs_r 43, fs_i h] M K :=
  E_Course_isDone ⟨h0, h6, fun z => a (Or.inl z), fun z => ⟨fun w => b (by omega), fun w => a (Or.inr w)⟩⟩
theorem sp_gained {E M S : fs_M} {K : fs_K} {hv : Int} (hB : fs_bE E) (hE : fs_env E M) (hS : ∀ h, 0 ≤ h → h < E 1 5 → M 49 h = S 7 h ∧ M 50 h = S 8 h) (h3 : ∀ h, 0 ≤ h → h < E 1 5 → -3 ≤ S 7 h) (hK : K (some (fs_i (fs_gain E S hv (E 1 5).toNat))) M) : fs_C2 g m_Course_gained 3 [fs_r 43, fs_i hv] M K := by
  have hB' := hB
  obtain ⟨B1, B2, B3, B4, B5, B6, B7⟩ := hB
  have e5 : M 1 5 = E 1 5 := hE 1 5 (Or.inl (by decide))
  have loop : ∀ (n : Nat) (i : Int), 0 ≤ i → i ≤ E 1 5 → E 1 5 - i = n → fs_A2 g m_Course_gained 3 4 [(0, fs_r 43), (1, fs_i hv), (2, fs_i (fs_gain E S hv i.toNat)), (3, fs_i i)] [] M K := by
    intro n
    induction n with
    | zero =>
      intro i i0 i1 hn
      refine L_Course_gained_4 ⟨fun _ => ?_, fun z => absurd z (by omega)⟩
      rw [show i = E 1 5 by omega]
      exact hK
    | succ n ih =>
      intro i i0 i1 hn
      obtain ⟨s7, s8⟩ := hS i i0 (by omega)
      have t7 := h3 i i0 (by omega)
      obtain ⟨b1, b2, b3, b4, b5, b6⟩ := B5 i i0 (by omega)
      have gb := fs_gain_b (S := S) (hv := hv) hB' i.toNat (by omega)
      have e4 : M 4 i = E 4 i := hE 4 i (Or.inl (by decide))
      have e5' : M 5 i = E 5 i := hE 5 i (Or.inl (by decide))
      have nxt : ∀ v, v = fs_gnOf E S hv i → fs_A2 g m_Course_gained 3 4 [(0, fs_r 43), (1, fs_i hv), (2, fs_i (fs_w32 (fs_gain E S hv i.toNat + v))), (3, fs_i (fs_w32 (i + 1)))] [] M K := by
        intro v hv2
        have vb := fs_gnOf_b (S := S) (hv := hv) b3 b4
        rw [fs_w32_of (by omega) (by omega), fs_w32_of (by omega) (by omega), hv2]
        have e : fs_gain E S hv i.toNat + fs_gnOf E S hv i = fs_gain E S hv (i + 1).toNat := by
          rw [show (i + 1).toNat = i.toNat + 1 by omega]
          show _ = fs_gain E S hv i.toNat + fs_gnOf E S hv (i.toNat : Int)
          rw [show ((i.toNat : Nat) : Int) = i by omega]
        rw [e]
        exact ih (i + 1) (by omega) (by omega) (by omega)
      have zero : fs_gnOf E S hv i = 0 → fs_A2 g m_Course_gained 3 4 [(0, fs_r 43), (1, fs_i hv), (2, fs_i (fs_gain E S hv i.toNat)), (3, fs_i (fs_w32 (i + 1)))] [] M K := by
        intro z
        have := nxt 0 z.symm
        rw [Int.add_zero, fs_w32_of (by omega) (by omega)] at this
        exact this
      have l46 : ∀ x, (x = 0 → E 4 i = fs_gnOf E S hv i) → (¬ x = 0 → fs_div (E 4 i) 2 = fs_gnOf E S hv i) → fs_A2 g m_Course_gained 3 46 [(0, fs_r 43), (1, fs_i hv), (2, fs_i (fs_gain E S hv i.toNat)), (3, fs_i i)] [fs_i x] M K := by
        intro x xa xb
        refine L_Course_gained_46 ⟨fun z => ⟨i0, by omega, ?_⟩, fun z => ⟨i0, by omega, ?_⟩⟩
        · rw [e4]; exact nxt _ (xa z)
        · rw [e4]; exact nxt _ (xb z)
      refine L_Course_gained_4 ⟨fun z => absurd z (by omega), fun _ => E_Course_isInTime (sp_isDone i0 (by omega) (fun dn => ⟨1, rfl, fun z => absurd z (by decide), fun _ => ⟨i0, by omega, fun lt => ?_, fun nl => ?_⟩⟩) (fun nd => ⟨0, rfl, fun _ => ?_, fun z => absurd rfl z⟩))⟩
      · refine ⟨0, rfl, fun _ => zero ?_, fun z => absurd rfl z⟩
        unfold fs_gnOf
        rw [if_neg (by omega), if_neg (by omega)]
      · refine ⟨1, rfl, fun z => absurd z (by decide), fun _ => ⟨i0, by omega, fun ng => ?_, fun ps => E_Fs_bit ⟨_, rfl, fun w => ?_, fun w => ?_⟩⟩⟩
        · refine l46 0 (fun _ => ?_) (fun z => absurd rfl z)
          unfold fs_gnOf
          rw [if_neg (by omega), if_pos (by omega), if_neg (by omega)]
        · have w2 : ¬ fs_bit hv i = 1 := w
          refine l46 0 (fun _ => ?_) (fun z => absurd rfl z)
          unfold fs_gnOf
          rw [if_neg (by omega), if_pos (by omega), if_neg (by omega)]
        · have w2 : fs_bit hv i = 1 := w
          refine l46 1 (fun z => absurd z (by decide)) (fun _ => ?_)
          unfold fs_gnOf
          rw [if_neg (by omega), if_pos (by omega), if_pos ⟨by omega, w2⟩]
      · refine ⟨0, rfl, fun _ => zero ?_, fun z => absurd rfl z⟩
        unfold fs_gnOf
        rw [if_pos (by omega)]
  exact E_Course_gained (loop (E 1 5).toNat 0 (by decide) (by omega) (by omega))
theorem sp_gains {E M S : fs_M} {K : fs_K} {hv tr : Int} (hB : fs_bE E) (hT : fs_rt E) (hE : fs_env E M) (hS : ∀ h, 0 ≤ h → h < E 1 5 → M 261 h = S 7 h ∧ M 262 h = S 8 h) (h42 : M 226 42 = tr) (hhv : ∀ h, 0 ≤ h → h < E 1 5 → (fs_bit hv h = 1 ↔ tr ≠ 0 ∧ fs_bit (M 226 47) h = 1)) (hK : K (some (fs_i (fs_gain E S hv (E 1 5).toNat))) M) : fs_C2 g m_Mo_gains 2 [fs_r 226] M K := by
  have hB' := hB
  obtain ⟨B1, B2, B3, B4, B5, B6, B7⟩ := hB
  obtain ⟨T1, T2, T3, T4, T5⟩ := hT
  have e228 : M 228 0 = E 1 5 := by rw [hE 228 0 (by unfold fs_eC; omega), T1]
  have loop : ∀ (n : Nat) (i : Int), 0 ≤ i → i ≤ E 1 5 → E 1 5 - i = n → fs_A2 g m_Mo_gains 2 4 [(0, fs_r 226), (1, fs_i (fs_gain E S hv i.toNat)), (2, fs_i i)] [] M K := by
    intro n
    induction n with
    | zero =>
      intro i i0 i1 hn
      refine L_Mo_gains_4 ⟨fun _ => ?_, fun z => absurd z (by omega)⟩
      rw [show i = E 1 5 by omega]
      exact hK
    | succ n ih =>
      intro i i0 i1 hn
      obtain ⟨s7, s8⟩ := hS i i0 (by omega)
      obtain ⟨b1, b2, b3, b4, b5, b6⟩ := B5 i i0 (by omega)
      obtain ⟨t3, t4, t5⟩ := T3 i i0 (by omega)
      have gb := fs_gain_b (S := S) (hv := hv) hB' i.toNat (by omega)
      have e4 : M 231 i = E 4 i := by rw [hE 231 i (by unfold fs_eC; omega), t4]
      have e5' : M 232 i = E 5 i := by rw [hE 232 i (by unfold fs_eC; omega), t5]
      have hb := hhv i i0 (by omega)
      have nxt : ∀ v, v = fs_gnOf E S hv i → ∃ r1, some (fs_i v) = some (fs_i r1) ∧ fs_A2 g m_Mo_gains 2 4 [(0, fs_r 226), (1, fs_i (fs_w32 (fs_gain E S hv i.toNat + r1))), (2, fs_i (fs_w32 (i + 1)))] [] M K := by
        intro v hv2
        refine ⟨v, rfl, ?_⟩
        have vb := fs_gnOf_b (S := S) (hv := hv) b3 b4
        rw [fs_w32_of (by omega) (by omega), fs_w32_of (by omega) (by omega), hv2]
        have e : fs_gain E S hv i.toNat + fs_gnOf E S hv i = fs_gain E S hv (i + 1).toNat := by
          rw [show (i + 1).toNat = i.toNat + 1 by omega]
          show _ = fs_gain E S hv i.toNat + fs_gnOf E S hv (i.toNat : Int)
          rw [show ((i.toNat : Nat) : Int) = i by omega]
        rw [e]
        exact ih (i + 1) (by omega) (by omega) (by omega)
      refine L_Mo_gains_4 ⟨fun z => absurd z (by omega), fun _ => E_Mo_gainOf ⟨i0, by omega, fun z => nxt 0 ?_, fun z => ⟨fun z2 => nxt 0 ?_, fun z2 => ⟨fun le => ⟨fun tr0 => ?_, fun tr1 => ⟨fun nb => ?_, fun yb => ⟨fun ng => ?_, fun ps => ?_⟩⟩⟩, fun gt => nxt 0 ?_⟩⟩⟩⟩
      · unfold fs_gnOf
        rw [if_pos (by omega)]
      · unfold fs_gnOf
        rw [if_pos (by omega)]
      · rw [e4]
        refine nxt _ ?_
        unfold fs_gnOf
        rw [if_neg (by omega), if_pos (by omega), if_neg (by intro q; have := hb.1 q.2; omega)]
      · have nb2 : ¬ fs_bit (M 226 47) i = 1 := nb
        rw [e4]
        refine nxt _ ?_
        unfold fs_gnOf
        rw [if_neg (by omega), if_pos (by omega), if_neg (by intro q; have := hb.1 q.2; omega)]
      · rw [e4]
        refine nxt _ ?_
        unfold fs_gnOf
        rw [if_neg (by omega), if_pos (by omega), if_neg (by omega)]
      · have yb2 : fs_bit (M 226 47) i = 1 := yb
        rw [e4]
        refine nxt _ ?_
        unfold fs_gnOf
        rw [if_neg (by omega), if_pos (by omega), if_pos ⟨by omega, hb.2 ⟨by omega, yb2⟩⟩]
      · unfold fs_gnOf
        rw [if_neg (by omega), if_neg (by omega)]
  exact E_Mo_gains (loop (E 1 5).toNat 0 (by decide) (by omega) (by omega))
end PLAIN
