-- ===== plans copied: the class's, the model's =====
def fs_plc (p o k : Int) : Prop := (o = p ∧ (k = 2 ∨ k = 3)) ∨ (p + 2 ≤ o ∧ o ≤ p + 5)
def fs_mlc (b o k : Int) : Prop := (o = 241 ∧ 27 * b ≤ k ∧ k < 27 * b + 27) ∨ (o = 242 ∧ 3 * b ≤ k ∧ k < 3 * b + 3) ∨ ((o = 243 ∨ o = 244) ∧ k = b)
/-- plan p of M' is plan q of M -/
def fs_pcp (M' : fs_M) (p : Int) (M : fs_M) (q : Int) : Prop := M' p 2 = M q 2 ∧ M' p 3 = M q 3 ∧ ∀ d, 0 ≤ d → d < 3 → M' (p + 5) d = M (q + 5) d ∧ ∀ k, 0 ≤ k → k < 9 → M' (p + 2 + d) k = M (q + 2 + d) k
/-- rows b of M' are rows c of M -/
def fs_mcp (M' : fs_M) (b : Int) (M : fs_M) (c : Int) : Prop := M' 243 b = M 243 c ∧ M' 244 b = M 244 c ∧ (∀ d, 0 ≤ d → d < 3 → M' 242 (3 * b + d) = M 242 (3 * c + d)) ∧ ∀ k, 0 ≤ k → k < 27 → M' 241 (27 * b + k) = M 241 (27 * c + k)
section PLANS
variable {g : fs_G}
theorem sp_copyFrom {M : fs_M} {K : fs_K} {p q : Int} (hp : fs_isO 6 p) (hq : fs_isO 6 q) (hd : p + 6 ≤ q ∨ q + 6 ≤ p) (hK : ∀ M', fs_out (fs_plc p) M M' → fs_pcp M' p M q → K none M') : fs_C2 g m_Plan_copyFrom 1 [fs_r p, fs_r q] M K := by
  have loop : ∀ (n : Nat) (i : Int) (M1 : fs_M), 0 ≤ i → i ≤ 3 → 3 - i = n → fs_out (fs_plc p) M M1 → (∀ d, 0 ≤ d → d < i → M1 (p + 5) d = M (q + 5) d ∧ ∀ k, 0 ≤ k → k < 9 → M1 (p + 2 + d) k = M (q + 2 + d) k) → fs_A2 g m_Plan_copyFrom 1 2 [(0, fs_r p), (1, fs_r q), (2, fs_i i)] [] M1 K := by
    intro n
    induction n with
    | zero =>
      intro i M1 i0 i1 hn o1 h
      refine L_Plan_copyFrom_2 hp hq ⟨fun _ => ?_, fun w => absurd w (by omega)⟩
      rw [o1 q 2 (by unfold fs_plc; omega), o1 q 3 (by unfold fs_plc; omega)]
      refine hK _ ((o1.st (by unfold fs_plc; omega)).st (by unfold fs_plc; omega)) ⟨by rw [fs_st_k (by decide), fs_st_s], by rw [fs_st_s], fun d d0 d1 => ?_⟩
      obtain ⟨a, b⟩ := h d d0 (by omega)
      rw [fs_st_o (by omega), fs_st_o (by omega)]
      refine ⟨a, fun k k0 k1 => ?_⟩
      rw [fs_st_o (by omega), fs_st_o (by omega)]
      exact b k k0 k1
    | succ n ih =>
      intro i M1 i0 i1 hn o1 h
      refine L_Plan_copyFrom_2 hp hq ⟨fun w => absurd w (by omega), fun _ => ⟨i0, ?_⟩⟩
      generalize hC : fs_cpy M1 (q + 2 + i) 0 (p + 2 + i) 0 9 = C
      have c1 : ∀ o k, o ≠ p + 2 + i → C o k = M1 o k := fun o k a => by rw [← hC, fs_cpy_o a]
      have c2 : ∀ k, 0 ≤ k → k < 9 → C (p + 2 + i) k = M (q + 2 + i) k := fun k a b => by
        rw [← hC]
        unfold fs_cpy
        rw [if_pos rfl, if_pos ⟨a, by omega⟩, Int.sub_zero, Int.zero_add]
        exact o1 _ _ (by unfold fs_plc; omega)
      rw [fs_w32_of (by omega) (by omega), c1 (q + 5) i (by omega), o1 (q + 5) i (by unfold fs_plc; omega)]
      have oC : fs_out (fs_plc p) M C := fun o k nF => by
        rw [c1 o k (fun e => nF (Or.inr (by omega)))]
        exact o1 o k nF
      refine ih (i + 1) _ (by omega) (by omega) (by omega) (oC.st (by unfold fs_plc; omega)) (fun d d0 d1 => ?_)
      by_cases c : d = i
      · rw [c, fs_st_s]
        refine ⟨rfl, fun k k0 k1 => ?_⟩
        rw [fs_st_o (by omega)]
        exact c2 k k0 k1
      · obtain ⟨a, b⟩ := h d d0 (by omega)
        rw [fs_st_k c, c1 _ _ (by omega)]
        refine ⟨a, fun k k0 k1 => ?_⟩
        rw [fs_st_o (by omega), c1 _ _ (by omega)]
        exact b k k0 k1
  exact E_Plan_copyFrom hp hq (loop 3 0 M (by decide) (by decide) (by decide) fs_out.rf (fun d d0 d1 => by omega))
theorem sp_copies {M : fs_M} {K : fs_K} {b c : Int} (hb0 : 0 ≤ b) (hb : b < 22) (hc0 : 0 ≤ c) (hc : c < 22) (hd : b ≠ c) (hK : ∀ M', fs_out (fs_mlc b) M M' → fs_mcp M' b M c → K none M') : fs_C2 g m_Mo_copies 1 [fs_r 226, fs_i b, fs_i c] M K := by
  have lens : ∀ (n : Nat) (i : Int) (M1 : fs_M), 0 ≤ i → i ≤ 3 → 3 - i = n → fs_out (fs_mlc b) M M1 → (∀ k, 0 ≤ k → k < 27 → M1 241 (27 * b + k) = M 241 (27 * c + k)) → (∀ d, 0 ≤ d → d < i → M1 242 (3 * b + d) = M 242 (3 * c + d)) → fs_A2 g m_Mo_copies 1 38 [(0, fs_r 226), (1, fs_i b), (2, fs_i c), (3, fs_i i)] [] M1 K := by
    intro n
    induction n with
    | zero =>
      intro i M1 i0 i1 hn o1 hr h
      refine L_Mo_copies_38 ⟨fun _ => ⟨hc0, hc, hb0, hb, ?_⟩, fun w => absurd w (by omega)⟩
      rw [o1 243 c (by unfold fs_mlc; omega), o1 244 c (by unfold fs_mlc; omega)]
      refine hK _ ((o1.st (by unfold fs_mlc; omega)).st (by unfold fs_mlc; omega)) ⟨by rw [fs_st_o (by decide), fs_st_s], by rw [fs_st_s], fun d d0 d1 => ?_, fun k k0 k1 => ?_⟩
      · rw [fs_st_o (by decide), fs_st_o (by decide)]
        exact h d d0 (by omega)
      · rw [fs_st_o (by decide), fs_st_o (by decide)]
        exact hr k k0 k1
    | succ n ih =>
      intro i M1 i0 i1 hn o1 hr h
      refine L_Mo_copies_38 ⟨fun w => absurd w (by omega), fun _ => ?_⟩
      rw [show fs_w32 (3 * c) = 3 * c from fs_w32_of (by omega) (by omega), show fs_w32 (3 * b) = 3 * b from fs_w32_of (by omega) (by omega), show fs_w32 (3 * c + i) = 3 * c + i from fs_w32_of (by omega) (by omega), show fs_w32 (3 * b + i) = 3 * b + i from fs_w32_of (by omega) (by omega), show fs_w32 (i + 1) = i + 1 from fs_w32_of (by omega) (by omega)]
      refine ⟨by omega, by omega, by omega, by omega, ?_⟩
      rw [o1 242 (3 * c + i) (by unfold fs_mlc; omega)]
      refine ih (i + 1) _ (by omega) (by omega) (by omega) (o1.st (by unfold fs_mlc; omega)) (fun k k0 k1 => by rw [fs_st_o (by decide)]; exact hr k k0 k1) (fun d d0 d1 => ?_)
      by_cases e : d = i
      · rw [e, fs_st_s]
      · rw [fs_st_k (by omega)]
        exact h d d0 (by omega)
  have rows : ∀ (n : Nat) (i : Int) (M1 : fs_M), 0 ≤ i → i ≤ 27 → 27 - i = n → fs_out (fs_mlc b) M M1 → (∀ k, 0 ≤ k → k < i → M1 241 (27 * b + k) = M 241 (27 * c + k)) → fs_A2 g m_Mo_copies 1 2 [(0, fs_r 226), (1, fs_i b), (2, fs_i c), (3, fs_i i)] [] M1 K := by
    intro n
    induction n with
    | zero =>
      intro i M1 i0 i1 hn o1 hr
      exact L_Mo_copies_2 ⟨fun _ => lens 3 0 M1 (by decide) (by decide) (by decide) o1 (fun k k0 k1 => hr k k0 (by omega)) (fun d d0 d1 => by omega), fun w => absurd w (by omega)⟩
    | succ n ih =>
      intro i M1 i0 i1 hn o1 hr
      refine L_Mo_copies_2 ⟨fun w => absurd w (by omega), fun _ => ?_⟩
      rw [show fs_w32 (27 * c) = 27 * c from fs_w32_of (by omega) (by omega), show fs_w32 (27 * b) = 27 * b from fs_w32_of (by omega) (by omega), show fs_w32 (27 * c + i) = 27 * c + i from fs_w32_of (by omega) (by omega), show fs_w32 (27 * b + i) = 27 * b + i from fs_w32_of (by omega) (by omega), show fs_w32 (i + 1) = i + 1 from fs_w32_of (by omega) (by omega)]
      refine ⟨by omega, by omega, by omega, by omega, ?_⟩
      rw [o1 241 (27 * c + i) (by unfold fs_mlc; omega)]
      refine ih (i + 1) _ (by omega) (by omega) (by omega) (o1.st (by unfold fs_mlc; omega)) (fun k k0 k1 => ?_)
      by_cases e : k = i
      · rw [e, fs_st_s]
      · rw [fs_st_k (by omega)]
        exact hr k k0 (by omega)
  exact E_Mo_copies (rows 27 0 M (by decide) (by decide) (by decide) fs_out.rf (fun k k0 k1 => by omega))
end PLANS
