-- ===== the model's name is the word's code =====
/-- letter k of the word from p to q (0: none) -/
def fs_ltr (T : Int → Int) (p q : Int) (k : Nat) : Nat := if p + k < q then (T (p + k) - 96).toNat else 0
theorem fs_ltr_b {T : Int → Int} {p q : Int} (h : ∀ i, p ≤ i → i < q → 97 ≤ T i ∧ T i ≤ 122) (k : Nat) : fs_ltr T p q k < 32 := by
  unfold fs_ltr
  split
  · have := h (p + k) (by omega) (by omega)
    omega
  · omega
section NAMEM
variable {g : fs_G} {M : fs_M}
theorem sp_nameM {K : fs_K} {p q : Int} (h20 : M 226 20 = p) (h19 : M 226 19 = q) (p0 : 0 ≤ p) (q1 : q ≤ 600) (hl : ∀ i, p ≤ i → i < q → 97 ≤ M 227 i ∧ M 227 i ≤ 122)
    (hK : ∀ M', fs_out (fun o k => o = 226 ∧ k = 22) M M' → M' 226 22 = ((fs_cd (fs_ltr (M 227) p q) 6 : Nat) : Int) → K none M') (p1 : p ≤ 600) : fs_C2 g m_Mo_name 1 [fs_r 226] M K := by
  have lb := fs_ltr_b hl
  have lp : ∀ (n k : Nat) (N : fs_M), 6 - k = n → k ≤ 6 → fs_out (fun o k => o = 226 ∧ k = 22) M N → N 226 22 = ((fs_cd (fs_ltr (M 227) p q) k : Nat) : Int) → fs_A2 g m_Mo_name 1 7 [(0, fs_r 226), (1, fs_i (k : Int))] [] N K := by
    intro n
    induction n with
    | zero =>
      intro k N hn k6 oN e
      have k6' : k = 6 := by omega
      refine L_Mo_name_7 ⟨fun _ => hK N oN (by rw [e, k6']), fun z => absurd z (by omega)⟩
    | succ n ih =>
      intro k N hn k6 oN e
      have z20 : N 226 20 = p := by rw [oN 226 20 (by omega)]; exact h20
      have z19 : N 226 19 = q := by rw [oN 226 19 (by omega)]; exact h19
      have cb := fs_cd_b lb k
      have c25 : fs_cd (fs_ltr (M 227) p q) k < 33554432 := by
        have m : (32 : Nat) ^ k ≤ 32 ^ 5 := Nat.pow_le_pow_right (by decide) (by omega)
        omega
      have wk : fs_w32 (p + (k : Int)) = p + k := fs_w32_of (by omega) (by omega)
      have step : ∀ v : Int, v = ((fs_ltr (M 227) p q k : Nat) : Int) → fs_A2 g m_Mo_name 1 7 [(0, fs_r 226), (1, fs_i (fs_w32 ((k : Int) + 1)))] [] (fs_st N 226 22 (fs_or (fs_shl (N 226 22) 5) v)) K := fun v hv => by
        rw [fs_wsucc (by omega), e, hv, fs_cd_m (lb k) c25]
        exact ih (k + 1) _ (by omega) (by omega) (oN.st ⟨rfl, rfl⟩) fs_st_s
      refine L_Mo_name_7 ⟨fun z => absurd z (by omega), fun _ => ?_⟩
      rw [z20, z19, wk]
      have u : fs_ltr (M 227) p q k = if p + (k : Int) < q then (M 227 (p + k) - 96).toNat else 0 := rfl
      refine ⟨fun z => step 0 ?_, fun z => ⟨by omega, by omega, step _ ?_⟩⟩
      · rw [u, if_neg (by omega)]
        rfl
      · have b := hl (p + k) (by omega) (by omega)
        rw [u, if_pos (by omega), oN 227 (p + k) (by omega), fs_w32_of (x := M 227 (p + k) - 97) (by omega) (by omega), fs_w32_of (x := M 227 (p + k) - 97 + 1) (by omega) (by omega)]
        omega
  exact E_Mo_name (lp 6 0 _ rfl (by omega) (fs_out.rf.st ⟨rfl, rfl⟩) fs_st_s)
end NAMEM
