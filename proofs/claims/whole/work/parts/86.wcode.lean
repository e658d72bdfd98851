-- ===== the class's code of a word is the same =====
theorem fs_cd_lim {l : Nat → Nat} (hl : ∀ k, l k < 32) {j : Nat} (h : j ≤ 5) : (fs_cd l j * 32 + l j) * 2 ^ (5 * (5 - j)) < 2147483648 := by
  have e : fs_cd l j * 32 + l j = fs_cd l (j + 1) := rfl
  have b := fs_cd_b hl (j + 1)
  rw [e]
  have p : (0 : Nat) < 2 ^ (5 * (5 - j)) := Nat.two_pow_pos _
  have m := (Nat.mul_lt_mul_right p).mpr b
  have t : ∀ i : Fin 6, (32 : Nat) ^ (i.val + 1) * 2 ^ (5 * (5 - i.val)) = 1073741824 := by decide +kernel
  have t2 := t ⟨j, by omega⟩
  have t3 : (32 : Nat) ^ (j + 1) * 2 ^ (5 * (5 - j)) = 1073741824 := t2
  omega
theorem fs_wcd_cd {T : Int → Int} {E p q : Int} (hq : q - p ≤ 6) (hl : ∀ i, p ≤ i → i < q → 97 ≤ T i ∧ T i ≤ 122) : ∀ (n j : Nat), p + j ≤ E → fs_scan fs_ilt T E n (p + j) = q → fs_wcd T E p n (p + j) ((fs_cd (fs_ltr T p q) j * 2 ^ (5 * (6 - j)) : Nat) : Int) = ((fs_cd (fs_ltr T p q) 6 : Nat) : Int) := by
  have lb := fs_ltr_b hl
  have stop : ∀ j : Nat, p + j = q → ((fs_cd (fs_ltr T p q) j * 2 ^ (5 * (6 - j)) : Nat) : Int) = ((fs_cd (fs_ltr T p q) 6 : Nat) : Int) := fun j h => by
    have z := fs_cd_z (l := fs_ltr T p q) (n := j) (fun k hk => by
      unfold fs_ltr
      rw [if_neg (by omega)]) (6 - j)
    rw [show j + (6 - j) = 6 from by omega, show (32 : Nat) = 2 ^ 5 from rfl, ← Nat.pow_mul] at z
    rw [z]
  intro n
  induction n with
  | zero =>
    intro j j1 sc
    exact stop j sc
  | succ n ih =>
    intro j j1 sc
    by_cases c : p + (j : Int) < E ∧ fs_ilt (T (p + j)) = true
    · have d := of_decide_eq_true c.2
      rw [fs_scan_y c.1 c.2] at sc
      have sb := fs_scan_b (P := fs_ilt) (T := T) (E := E) n (p + j + 1) (by omega)
      rw [sc] at sb
      have e : fs_wcd T E p (n + 1) (p + j) ((fs_cd (fs_ltr T p q) j * 2 ^ (5 * (6 - j)) : Nat) : Int) = fs_wcd T E p n (p + j + 1) (fs_wl ((fs_cd (fs_ltr T p q) j * 2 ^ (5 * (6 - j)) : Nat) : Int) (p + j - p) (T (p + j))) := if_pos c
      have u : fs_ltr T p q j = if p + (j : Int) < q then (T (p + j) - 96).toNat else 0 := rfl
      have u2 : ((fs_ltr T p q j : Nat) : Int) = T (p + j) - 96 := by
        rw [u, if_pos (by omega)]
        omega
      have w : fs_wl ((fs_cd (fs_ltr T p q) j * 2 ^ (5 * (6 - j)) : Nat) : Int) (p + j - p) (T (p + j)) = ((fs_cd (fs_ltr T p q) (j + 1) * 2 ^ (5 * (6 - (j + 1))) : Nat) : Int) := by
        have j5 : j ≤ 5 := by omega
        unfold fs_wl
        rw [if_neg (by omega), ← u2, show 5 * (5 - (p + (j : Int) - p)) = ((5 * (5 - j) : Nat) : Int) from by omega, show 5 * (6 - j) = 5 * (5 - j) + 5 from by omega, fs_cd_c (lb j) (by omega) (fs_cd_lim lb j5), show 5 * (6 - (j + 1)) = 5 * (5 - j) from by omega]
        rfl
      rw [e, w, show p + (j : Int) + 1 = p + ((j + 1 : Nat) : Int) from by omega]
      exact ih (j + 1) (by omega) (by rw [show p + ((j + 1 : Nat) : Int) = p + (j : Int) + 1 from by omega]; exact sc)
    · rw [fs_scan_n c] at sc
      rw [fs_wcd_n c]
      exact stop j sc
