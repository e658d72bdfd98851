-- ===== the model reads numbers and signs =====
/-- the model's number: it stops growing behind 99999 -/
def fs_mnum (T : Int → Int) (E : Int) : Nat → Int → Int → Int
  | 0, _, a => a
  | n + 1, i, a => if i < E ∧ fs_idg (T i) = true then fs_mnum T E n (i + 1) (if a ≤ 99999 then 10 * a + T i - 48 else a) else a
theorem fs_mnum_n {T : Int → Int} {E i a : Int} {n : Nat} (h : ¬ (i < E ∧ fs_idg (T i) = true)) : fs_mnum T E n i a = a := by
  cases n with
  | zero => rfl
  | succ n => exact if_neg h
/-- both numbers are the same, but for how far they grow -/
theorem fs_mnum_dnum {T : Int → Int} {E : Int} : ∀ (n : Nat) (i a b : Int), 0 ≤ b → a = min b 100000 → fs_dnum T E n i a = min (fs_mnum T E n i b) 100000 ∧ 0 ≤ fs_mnum T E n i b
  | 0, _, _, _, b0, h => ⟨h, b0⟩
  | n + 1, i, a, b, b0, h => by
    unfold fs_dnum fs_mnum
    by_cases c : i < E ∧ fs_idg (T i) = true
    · rw [if_pos c, if_pos c]
      have d := of_decide_eq_true c.2
      by_cases q : b ≤ 99999
      · rw [if_pos q]
        exact fs_mnum_dnum n (i + 1) _ _ (by omega) (by omega)
      · rw [if_neg q]
        exact fs_mnum_dnum n (i + 1) _ _ b0 (by omega)
    · rw [if_neg c, if_neg c]
      exact ⟨h, b0⟩
def fs_sgV (a b : Int) : Int := if a = 60 then (if b = 61 then 256 else if b = 62 then 257 else 60) else if a = 62 then (if b = 61 then 258 else 62) else a
def fs_sgS (a : Int) : Int := if a = 59 ∨ a = 40 ∨ a = 41 ∨ a = 43 ∨ a = 45 ∨ a = 42 ∨ a = 47 ∨ a = 60 ∨ a = 61 ∨ a = 62 then 3 else 5
section LEXM
variable {g : fs_G} {M : fs_M}
theorem sp_here {K : fs_K} {S i : Int} (h18 : M 226 18 = S) (h19 : M 226 19 = i) (i0 : 0 ≤ i) (S1 : S ≤ 600) (a : S ≤ i → K (some (fs_i (-1))) M) (b : i < S → K (some (fs_i (M 227 i))) M) : fs_C2 g m_Mo_here 1 [fs_r 226] M K := by
  refine E_Mo_here ?_
  rw [h18, h19]
  exact ⟨a, fun z => ⟨i0, by omega, b (by omega)⟩⟩
theorem sp_numM {K : fs_K} {S p : Int} (h18 : M 226 18 = S) (h19 : M 226 19 = p) (h22 : M 226 22 = 0) (p0 : 0 ≤ p) (p1 : p ≤ S) (S1 : S ≤ 600)
    (hK : ∀ M', fs_out (fun o k => o = 226 ∧ (k = 19 ∨ k = 22)) M M' → M' 226 19 = fs_scan fs_idg (M 227) S (S - p).toNat p → M' 226 22 = fs_mnum (M 227) S (S - p).toNat p 0 → K none M') : fs_A2 g m_Mo_token 6 162 [(0, fs_r 226)] [] M K := by
  have lp : ∀ (n : Nat) (i a : Int) (N : fs_M), p ≤ i → i ≤ S → S - i = n → 0 ≤ a → a ≤ 1000000 → fs_out (fun o k => o = 226 ∧ (k = 19 ∨ k = 22)) M N → N 226 19 = i → N 226 22 = a → fs_scan fs_idg (M 227) S n i = fs_scan fs_idg (M 227) S (S - p).toNat p → fs_mnum (M 227) S n i a = fs_mnum (M 227) S (S - p).toNat p 0 → fs_A2 g m_Mo_token 6 162 [(0, fs_r 226)] [] N K := by
    intro n
    induction n with
    | zero =>
      intro i a N i0 i1 hn a0 a1 oN e19 e22 s1 s2
      have z18 : N 226 18 = S := by rw [oN 226 18 (by omega)]; exact h18
      exact L_Mo_token_162 (sp_here z18 e19 (by omega) S1 (fun _ => ⟨_, rfl, E_Mo_isDigit ⟨fun _ => ⟨_, rfl, fun _ => hK N oN (by rw [e19, ← s1]; rfl) (by rw [e22, ← s2]; rfl), fun z => absurd rfl z⟩, fun z => absurd (by decide) z⟩⟩) (fun z => absurd z (by omega)))
    | succ n ih =>
      intro i a N i0 i1 hn a0 a1 oN e19 e22 s1 s2
      have z18 : N 226 18 = S := by rw [oN 226 18 (by omega)]; exact h18
      have z227 : N 227 i = M 227 i := oN 227 i (by omega)
      refine L_Mo_token_162 (sp_here z18 e19 (by omega) S1 (fun z => absurd z (by omega)) (fun lt => ⟨_, rfl, ?_⟩))
      rw [z227]
      have stop : ¬ (48 ≤ M 227 i ∧ M 227 i ≤ 57) → K none N := fun q => by
        have c : ¬ (i < S ∧ fs_idg (M 227 i) = true) := fun c => q (of_decide_eq_true c.2)
        rw [fs_scan_n c] at s1
        rw [fs_mnum_n c] at s2
        exact hK N oN (by rw [e19, s1]) (by rw [e22, s2])
      refine E_Mo_isDigit ⟨fun z => ⟨_, rfl, fun _ => stop (by omega), fun y => absurd rfl y⟩, fun z => ⟨fun z2 => ⟨_, rfl, fun _ => stop (by omega), fun y => absurd rfl y⟩, fun z2 => ⟨_, rfl, fun y => absurd y (by decide), fun _ => ?_⟩⟩⟩
      have c : fs_idg (M 227 i) = true := decide_eq_true (by omega)
      rw [fs_scan_y lt c] at s1
      have e : fs_mnum (M 227) S (n + 1) i a = fs_mnum (M 227) S n (i + 1) (if a ≤ 99999 then 10 * a + M 227 i - 48 else a) := if_pos ⟨lt, c⟩
      rw [e] at s2
      have go : ∀ r, r = (if a ≤ 99999 then 10 * a + M 227 i - 48 else a) → fs_A2 g m_Mo_token 6 204 [(0, fs_r 226)] [fs_i r, fs_r 226] N K := fun r hr => by
        refine L_Mo_token_204 ?_
        rw [e19, fs_w32_of (x := i + 1) (by omega) (by omega)]
        refine ih (i + 1) r _ (by omega) (by omega) (by omega) (by rw [hr]; split <;> omega) (by rw [hr]; split <;> omega) ((oN.st ⟨rfl, Or.inr rfl⟩).st ⟨rfl, Or.inl rfl⟩) fs_st_s ?_ s1 (by rw [hr]; exact s2)
        rw [fs_st_k (by omega)]
        exact fs_st_s
      rw [e22]
      refine ⟨fun z3 => sp_here z18 e19 (by omega) S1 (fun y => absurd y (by omega)) (fun _ => ⟨_, rfl, go _ ?_⟩), fun z3 => go _ ?_⟩
      · rw [if_pos z3, z227, fs_w32_of (x := 10 * a) (by omega) (by omega), fs_w32_of (x := 10 * a + M 227 i) (by omega) (by omega), fs_w32_of (x := 10 * a + M 227 i - 48) (by omega) (by omega)]
      · rw [if_neg z3]
  exact lp (S - p).toNat p 0 M (by omega) p1 (by omega) (by omega) (by omega) fs_out.rf h19 h22 rfl rfl
theorem sp_signM {K : fs_K} {S p c : Int} (h18 : M 226 18 = S) (h19 : M 226 19 = p) (p0 : 0 ≤ p) (p1 : p < S) (S1 : S ≤ 600) (c1 : c ≤ 255)
    (hK : ∀ M', fs_out (fun o k => o = 226 ∧ (k = 19 ∨ k = 21 ∨ k = 22)) M M' → M' 226 19 = p + fs_sgB c (if S ≤ p + 1 then -1 else M 227 (p + 1)) → M' 226 21 = fs_sgS c → M' 226 22 = fs_sgV c (if S ≤ p + 1 then -1 else M 227 (p + 1)) → K none M') : fs_C2 g m_Mo_sign 2 [fs_r 226, fs_i c] M K := by
  obtain ⟨b, hb⟩ : ∃ b, (if S ≤ p + 1 then -1 else M 227 (p + 1)) = b := ⟨_, rfl⟩
  rw [hb] at hK
  have w1 : fs_w32 (p + 1) = p + 1 := fs_w32_of (by omega) (by omega)
  have hr : ∀ (N : fs_M) (K' : fs_K), fs_out (fun o k => o = 226 ∧ (k = 19 ∨ k = 21 ∨ k = 22)) M N → N 226 19 = p + 1 → K' (some (fs_i b)) N → fs_C2 g m_Mo_here 1 [fs_r 226] N K' := fun N K' oN e19 k => by
    have z18 : N 226 18 = S := by rw [oN 226 18 (by omega)]; exact h18
    refine sp_here z18 e19 (by omega) S1 (fun z => ?_) (fun z => ?_)
    · rw [if_pos z] at hb
      rw [hb]
      exact k
    · rw [if_neg (by omega)] at hb
      rw [oN 227 (p + 1) (by omega), hb]
      exact k
  have l150 : ∀ (N : fs_M) (v : Int), fs_out (fun o k => o = 226 ∧ (k = 19 ∨ k = 21 ∨ k = 22)) M N → N 226 19 = p + 1 → N 226 21 = fs_sgS c → N 226 22 = v → v = fs_sgV c b → fs_sgB c b = (if v < 256 then 1 else 2) → fs_A2 g m_Mo_sign 2 150 [(0, fs_r 226)] [] N K := fun N v oN e19 e21 e22 hv hB => by
    refine L_Mo_sign_150 ?_
    rw [e22, e19]
    refine ⟨fun z => hK N oN (by rw [e19, hB, if_pos z]) e21 (by rw [e22, hv]), fun z => ?_⟩
    rw [fs_w32_of (x := p + 1 + 1) (by omega) (by omega)]
    refine hK _ (oN.st ⟨rfl, Or.inl rfl⟩) (by rw [fs_st_s, hB, if_neg z]; omega) ?_ ?_
    · rw [fs_st_k (by omega)]
      exact e21
    · rw [fs_st_k (by omega), e22, hv]
  have l76 : ∀ s, s = fs_sgS c → fs_A2 g m_Mo_sign 2 76 [(0, fs_r 226), (1, fs_i c)] [fs_i s, fs_r 226] (fs_st M 226 19 (fs_w32 ((M 226 19) + 1))) K := fun s hs => by
    rw [h19, w1]
    obtain ⟨N, hN⟩ : ∃ N, fs_st (fs_st (fs_st M 226 19 (p + 1)) 226 21 s) 226 22 c = N := ⟨_, rfl⟩
    have oN : fs_out (fun o k => o = 226 ∧ (k = 19 ∨ k = 21 ∨ k = 22)) M N := by
      rw [← hN]
      exact ((fs_out.rf.st ⟨rfl, Or.inl rfl⟩).st ⟨rfl, Or.inr (Or.inl rfl)⟩).st ⟨rfl, Or.inr (Or.inr rfl)⟩
    have e19 : N 226 19 = p + 1 := by
      rw [← hN, fs_st_k (by omega), fs_st_k (by omega)]
      exact fs_st_s
    have e21 : N 226 21 = fs_sgS c := by
      rw [← hN, fs_st_k (by omega), ← hs]
      exact fs_st_s
    have e22 : N 226 22 = c := by
      rw [← hN]
      exact fs_st_s
    have put : ∀ v, fs_out (fun o k => o = 226 ∧ (k = 19 ∨ k = 21 ∨ k = 22)) M (fs_st N 226 22 v) ∧ fs_st N 226 22 v 226 19 = p + 1 ∧ fs_st N 226 22 v 226 21 = fs_sgS c ∧ fs_st N 226 22 v 226 22 = v := fun v => ⟨oN.st ⟨rfl, Or.inr (Or.inr rfl)⟩, by rw [fs_st_k (by omega)]; exact e19, by rw [fs_st_k (by omega)]; exact e21, fs_st_s⟩
    refine L_Mo_sign_76 ?_
    rw [hN]
    by_cases c60 : c = 60
    · refine ⟨fun z => absurd c60 z, fun _ => hr N _ oN e19 ⟨_, rfl, fun nb => L_Mo_sign_106 ⟨fun z => absurd c60 z, fun _ => hr N _ oN e19 ⟨_, rfl, fun nb2 => L_Mo_sign_128 ⟨fun _ => ?_, fun z => absurd z (by omega)⟩, fun yb2 => L_Mo_sign_128 ⟨fun _ => ?_, fun z => absurd z (by omega)⟩⟩⟩, fun yb => ?_⟩⟩
      · refine l150 N c oN e19 e21 e22 ?_ ?_
        · unfold fs_sgV
          rw [if_pos c60, if_neg nb, if_neg nb2, c60]
        · unfold fs_sgB
          rw [if_pos c60, if_neg nb, if_neg nb2, if_pos (by omega)]
      · obtain ⟨x1, x2, x3, x4⟩ := put 257
        refine l150 _ 257 x1 x2 x3 x4 ?_ ?_
        · unfold fs_sgV
          rw [if_pos c60, if_neg nb, if_pos yb2]
        · unfold fs_sgB
          rw [if_pos c60, if_neg nb, if_pos yb2, if_neg (by omega)]
      · obtain ⟨x1, x2, x3, x4⟩ := put 256
        refine L_Mo_sign_106 ⟨fun z => absurd c60 z, fun _ => hr _ _ x1 x2 ⟨_, rfl, fun _ => L_Mo_sign_128 ⟨fun _ => l150 _ 256 x1 x2 x3 x4 ?_ ?_, fun z => absurd z (by omega)⟩, fun z => absurd z (by omega)⟩⟩
        · unfold fs_sgV
          rw [if_pos c60, if_pos yb]
        · unfold fs_sgB
          rw [if_pos c60, if_pos yb, if_neg (by omega)]
    · refine ⟨fun _ => L_Mo_sign_106 ⟨fun _ => L_Mo_sign_128 ⟨fun n62 => l150 N c oN e19 e21 e22 ?_ ?_, fun c62 => hr N _ oN e19 ⟨_, rfl, fun nb => l150 N c oN e19 e21 e22 ?_ ?_, fun yb => ?_⟩⟩, fun z => absurd z c60⟩, fun z => absurd z c60⟩
      · unfold fs_sgV
        rw [if_neg c60, if_neg n62]
      · unfold fs_sgB
        rw [if_neg c60, if_neg n62, if_pos (by omega)]
      · unfold fs_sgV
        rw [if_neg c60, if_pos c62, if_neg nb, c62]
      · unfold fs_sgB
        rw [if_neg c60, if_pos c62, if_neg nb, if_pos (by omega)]
      · obtain ⟨x1, x2, x3, x4⟩ := put 258
        refine l150 _ 258 x1 x2 x3 x4 ?_ ?_
        · unfold fs_sgV
          rw [if_neg c60, if_pos c62, if_pos yb]
        · unfold fs_sgB
          rw [if_neg c60, if_pos c62, if_pos yb, if_neg (by omega)]
  have y3 : (c = 59 ∨ c = 40 ∨ c = 41 ∨ c = 43 ∨ c = 45 ∨ c = 42 ∨ c = 47 ∨ c = 60 ∨ c = 61 ∨ c = 62) → 3 = fs_sgS c := fun z => by
    unfold fs_sgS
    rw [if_pos z]
  exact E_Mo_sign ⟨fun z => l76 3 (y3 (by omega)), fun n1 => ⟨fun z => l76 3 (y3 (by omega)), fun n2 => ⟨fun z => l76 3 (y3 (by omega)), fun n3 => ⟨fun z => l76 3 (y3 (by omega)), fun n4 => ⟨fun z => l76 3 (y3 (by omega)), fun n5 => ⟨fun z => l76 3 (y3 (by omega)), fun n6 => ⟨fun z => l76 3 (y3 (by omega)), fun n7 => ⟨fun z => l76 3 (y3 (by omega)), fun n8 => ⟨fun z => l76 3 (y3 (by omega)), fun n9 => ⟨fun n10 => l76 5 (by unfold fs_sgS; rw [if_neg (by omega)]), fun z => l76 3 (y3 (by omega))⟩⟩⟩⟩⟩⟩⟩⟩⟩⟩
end LEXM
