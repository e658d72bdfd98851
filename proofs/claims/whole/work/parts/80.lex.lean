-- ===== the tape read token by token: what is read, and that the class reads it =====
def fs_isp (c : Int) : Bool := decide (c = 32 ∨ c = 10)
def fs_ilt (c : Int) : Bool := decide (97 ≤ c ∧ c ≤ 122)
def fs_idg (c : Int) : Bool := decide (48 ≤ c ∧ c ≤ 57)
/-- the first place from i (n of them asked) that is not of the kind P -/
def fs_scan (P : Int → Bool) (T : Int → Int) (E : Int) : Nat → Int → Int
  | 0, i => i
  | n + 1, i => if i < E ∧ P (T i) = true then fs_scan P T E n (i + 1) else i
theorem fs_scan_b {P : Int → Bool} {T : Int → Int} {E : Int} : ∀ (n : Nat) (i : Int), i ≤ E → i ≤ fs_scan P T E n i ∧ fs_scan P T E n i ≤ E
  | 0, i, h => ⟨Int.le_refl i, h⟩
  | n + 1, i, h => by
    unfold fs_scan
    by_cases c : i < E ∧ P (T i) = true
    · rw [if_pos c]
      have ih := fs_scan_b (P := P) (T := T) (E := E) n (i + 1) (by omega)
      omega
    · rw [if_neg c]
      omega
theorem fs_scan_y {P : Int → Bool} {T : Int → Int} {E i : Int} {n : Nat} (h : i < E) (hp : P (T i) = true) : fs_scan P T E (n + 1) i = fs_scan P T E n (i + 1) := if_pos ⟨h, hp⟩
theorem fs_scan_n {P : Int → Bool} {T : Int → Int} {E i : Int} {n : Nat} (h : ¬ (i < E ∧ P (T i) = true)) : fs_scan P T E n i = i := by
  cases n with
  | zero => rfl
  | succ n => exact if_neg h
/-- the number that stands from i, no more than 100000 -/
def fs_dnum (T : Int → Int) (E : Int) : Nat → Int → Int → Int
  | 0, _, a => a
  | n + 1, i, a => if i < E ∧ fs_idg (T i) = true then fs_dnum T E n (i + 1) (min (a * 10 + T i - 48) 100000) else a
theorem fs_dnum_n {T : Int → Int} {E i a : Int} {n : Nat} (h : ¬ (i < E ∧ fs_idg (T i) = true)) : fs_dnum T E n i a = a := by
  cases n with
  | zero => rfl
  | succ n => exact if_neg h
/-- a letter at place j of a word's code -/
def fs_wl (a j c : Int) : Int := if 6 ≤ j then a else fs_or a (fs_shl (c - 96) (5 * (5 - j)))
def fs_wcd (T : Int → Int) (E p : Int) : Nat → Int → Int → Int
  | 0, _, a => a
  | n + 1, i, a => if i < E ∧ fs_ilt (T i) = true then fs_wcd T E p n (i + 1) (fs_wl a (i - p) (T i)) else a
theorem fs_wcd_n {T : Int → Int} {E p i a : Int} {n : Nat} (h : ¬ (i < E ∧ fs_ilt (T i) = true)) : fs_wcd T E p n i a = a := by
  cases n with
  | zero => rfl
  | succ n => exact if_neg h
/-- the token with these letters, asked from place i on -/
def fs_tsr (code : Int) : Nat → Int → Int
  | 0, _ => 1034
  | n + 1, i => if fs_lets (1000 + i) = code ∧ i ≠ 34 then 1000 + i else fs_tsr code n (i + 1)
section LEXC
variable {g : fs_G} {M : fs_M}
theorem sp_readNumber {K : fs_K} {E p : Int} (hE : M 29 5 = E) (hp : M 29 6 = p) (p0 : 0 ≤ p) (p1 : p ≤ E) (E1 : E ≤ 600)
    (hK : ∀ M', fs_out (fun o k => o = 29 ∧ 6 ≤ k ∧ k ≤ 10 ∧ k ≠ 8) M M' → M' 29 7 = 1017 → M' 29 6 = fs_scan fs_idg (M 30) E (E - p).toNat p → M' 29 9 = fs_dnum (M 30) E (E - p).toNat p 0 → K none M') : fs_C2 g m_Reader_readNumber 2 [fs_r 29] M K := by
  have lp : ∀ (n : Nat) (i a : Int) (N : fs_M), p ≤ i → i ≤ E → E - i = n → 0 ≤ a → a ≤ 100000 → fs_out (fun o k => o = 29 ∧ 6 ≤ k ∧ k ≤ 10 ∧ k ≠ 8) M N → N 29 7 = 1017 → N 29 6 = i → N 29 9 = a → fs_scan fs_idg (M 30) E n i = fs_scan fs_idg (M 30) E (E - p).toNat p → fs_dnum (M 30) E n i a = fs_dnum (M 30) E (E - p).toNat p 0 → fs_A2 g m_Reader_readNumber 2 12 [(0, fs_r 29)] [] N K := by
    intro n
    induction n with
    | zero =>
      intro i a N i0 i1 hn a0 a1 oN t6 e6 e9 s1 s2
      have z5 : N 29 5 = E := by rw [oN 29 5 (by omega)]; exact hE
      refine L_Reader_readNumber_12 ⟨fun _ => hK N oN t6 (by rw [e6, ← s1]; rfl) (by rw [e9, ← s2]; rfl), fun z => absurd z (by omega)⟩
    | succ n ih =>
      intro i a N i0 i1 hn a0 a1 oN t6 e6 e9 s1 s2
      have z5 : N 29 5 = E := by rw [oN 29 5 (by omega)]; exact hE
      have z30 : N 30 i = M 30 i := oN 30 i (by omega)
      refine L_Reader_readNumber_12 ?_
      rw [z5, e6, z30, e9]
      refine ⟨fun z => absurd z (by omega), fun _ => ⟨by omega, by omega, fun z => ?_, fun z => ⟨fun z2 => ?_, fun z2 => ?_⟩⟩⟩
      · have c : ¬ (i < E ∧ fs_idg (M 30 i) = true) := fun c => by
          have c2 := of_decide_eq_true c.2
          omega
        rw [fs_scan_n c] at s1
        rw [fs_dnum_n c] at s2
        exact hK N oN t6 (by rw [e6, s1]) (by rw [e9, s2])
      · have c : ¬ (i < E ∧ fs_idg (M 30 i) = true) := fun c => by
          have c2 := of_decide_eq_true c.2
          omega
        rw [fs_scan_n c] at s1
        rw [fs_dnum_n c] at s2
        exact hK N oN t6 (by rw [e6, s1]) (by rw [e9, s2])
      · have c : fs_idg (M 30 i) = true := decide_eq_true (by omega)
        rw [fs_scan_y (by omega) c] at s1
        have e : fs_dnum (M 30) E (n + 1) i a = fs_dnum (M 30) E n (i + 1) (min (a * 10 + M 30 i - 48) 100000) := if_pos ⟨by omega, c⟩
        rw [e] at s2
        rw [fs_w32_of (x := a * 10) (by omega) (by omega), fs_w32_of (x := a * 10 + M 30 i) (by omega) (by omega), fs_w32_of (x := a * 10 + M 30 i - 48) (by omega) (by omega)]
        refine sp_minI ⟨_, rfl, ?_⟩
        rw [e6, fs_w32_of (x := i + 1) (by omega) (by omega)]
        refine ih (i + 1) (min (a * 10 + M 30 i - 48) 100000) _ (by omega) (by omega) (by omega) (by omega) (by omega) ((oN.st ⟨rfl, by omega⟩).st ⟨rfl, by omega⟩) ?_ fs_st_s ?_ s1 s2
        · rw [fs_st_k (by omega), fs_st_k (by omega)]
          exact t6
        · rw [fs_st_k (by omega)]
          exact fs_st_s
  refine E_Reader_readNumber (lp (E - p).toNat p 0 _ (by omega) p1 (by omega) (by omega) (by omega) ((fs_out.rf.st ⟨rfl, by omega⟩).st ⟨rfl, by omega⟩) ?_ ?_ fs_st_s rfl rfl)
  · rw [fs_st_k (by omega)]
    exact fs_st_s
  · rw [fs_st_k (by omega), fs_st_k (by omega)]
    exact hp
theorem sp_wordEnd {K : fs_K} {code : Int} : ∀ (n : Nat) (i : Int) (N : fs_M), 0 ≤ i → 37 - i = n → N 29 7 = 1034 → N 29 10 = code → (∀ N', fs_out (fun o k => o = 29 ∧ k = 7) N N' → N' 29 7 = fs_tsr code n i → K none N') → fs_A2 g m_Reader_readWord 2 115 [(0, fs_r 29), (1, fs_i i)] [] N K
  | 0, i, N, i0, hn, t, c, hK => L_Reader_readWord_115 ⟨fun _ => hK N fs_out.rf t, fun z => absurd z (by omega)⟩
  | n + 1, i, N, i0, hn, t, c, hK => by
    refine L_Reader_readWord_115 ⟨fun z => absurd z (by omega), fun _ => ⟨⟨by omega, by omega⟩, fun z => absurd t z, fun _ => ⟨i0, fun z => ?_, fun z => ?_⟩⟩⟩
    · rw [fs_w32_of (x := i + 1) (by omega) (by omega)]
      rw [c] at z
      have e : fs_tsr code (n + 1) i = fs_tsr code n (i + 1) := if_neg (fun y => z y.1)
      exact sp_wordEnd n (i + 1) N (by omega) (by omega) t c (fun N' o' e' => hK N' o' (by rw [e', e]))
    · rw [fs_w32_of (x := i + 1) (by omega) (by omega)]
      rw [c] at z
      by_cases h34 : i = 34
      · have e : fs_tsr code (n + 1) i = fs_tsr code n (i + 1) := if_neg (fun y => y.2 h34)
        refine sp_wordEnd (code := code) n (i + 1) _ (by omega) (by omega) (by rw [fs_st_s]; omega) (by rw [fs_st_k (by omega)]; exact c) (fun N' o' e' => hK N' ((fs_out.rf.st ⟨rfl, rfl⟩).tr o') (by rw [e', e]))
      · have e : fs_tsr code (n + 1) i = 1000 + i := if_pos ⟨z, h34⟩
        have k7 : fs_st N 29 7 (1000 + i) 29 7 = 1000 + i := fs_st_s
        have fin := hK (fs_st N 29 7 (1000 + i)) (fs_out.rf.st ⟨rfl, rfl⟩) (by rw [k7, e])
        refine L_Reader_readWord_115 ⟨fun _ => fin, fun q => ?_⟩
        rw [k7]
        exact ⟨⟨by omega, by omega⟩, fun _ => fin, fun q => absurd q (by omega)⟩
theorem sp_readWord {K : fs_K} {E p : Int} (hE : M 29 5 = E) (hp : M 29 6 = p) (h8 : M 29 8 = p) (p0 : 0 ≤ p) (p1 : p ≤ E) (E1 : E ≤ 600)
    (hK : ∀ M', fs_out (fun o k => o = 29 ∧ 6 ≤ k ∧ k ≤ 10 ∧ k ≠ 8) M M' → M' 29 6 = fs_scan fs_ilt (M 30) E (E - p).toNat p → M' 29 10 = fs_wcd (M 30) E p (E - p).toNat p 0 → M' 29 7 = (if fs_scan fs_ilt (M 30) E (E - p).toNat p - p ≤ 6 then fs_tsr (fs_wcd (M 30) E p (E - p).toNat p 0) 37 0 else 1036) → K none M') : fs_C2 g m_Reader_readWord 2 [fs_r 29] M K := by
  have sb := fs_scan_b (P := fs_ilt) (T := M 30) (E := E) (E - p).toNat p p1
  have fin : ∀ N, fs_out (fun o k => o = 29 ∧ 6 ≤ k ∧ k ≤ 10 ∧ k ≠ 8) M N → N 29 6 = fs_scan fs_ilt (M 30) E (E - p).toNat p → N 29 10 = fs_wcd (M 30) E p (E - p).toNat p 0 → fs_A2 g m_Reader_readWord 2 86 [(0, fs_r 29)] [] N K := fun N oN e6 e10 => by
    have e8 : N 29 8 = p := by rw [oN 29 8 (by omega)]; exact h8
    refine L_Reader_readWord_86 ?_
    rw [e6, e8, fs_w32_of (x := fs_scan fs_ilt (M 30) E (E - p).toNat p - p) (by omega) (by omega)]
    refine ⟨fun z => ?_, fun z => ?_⟩
    · refine sp_wordEnd (code := fs_wcd (M 30) E p (E - p).toNat p 0) 37 0 _ (by omega) (by omega) fs_st_s (by rw [fs_st_k (by omega)]; exact e10) (fun N' o' e' => ?_)
      have o2 : ∀ o k, ¬ (o = 29 ∧ k = 7) → N' o k = fs_st N 29 7 1034 o k := o'
      refine hK N' ((oN.st ⟨rfl, by omega⟩).tr (fs_out.wk o' (fun o k q => ?_))) ?_ ?_ ?_
      · have q2 : o = 29 ∧ k = 7 := q
        exact ⟨q2.1, by omega⟩
      · rw [o2 29 6 (by omega), fs_st_k (by omega)]
        exact e6
      · rw [o2 29 10 (by omega), fs_st_k (by omega)]
        exact e10
      · rw [e', if_pos z]
    · have k7 : fs_st N 29 7 1036 29 7 = 1036 := fs_st_s
      have done := hK (fs_st N 29 7 1036) (oN.st ⟨rfl, by omega⟩) (by rw [fs_st_k (by omega)]; exact e6) (by rw [fs_st_k (by omega)]; exact e10) (by rw [k7, if_neg z])
      refine L_Reader_readWord_115 ⟨fun _ => done, fun _ => ?_⟩
      rw [k7]
      exact ⟨⟨by omega, by omega⟩, fun _ => done, fun q => absurd q (by omega)⟩
  have lp : ∀ (n : Nat) (i a : Int) (N : fs_M), p ≤ i → i ≤ E → E - i = n → fs_out (fun o k => o = 29 ∧ 6 ≤ k ∧ k ≤ 10 ∧ k ≠ 8) M N → N 29 6 = i → N 29 10 = a → fs_scan fs_ilt (M 30) E n i = fs_scan fs_ilt (M 30) E (E - p).toNat p → fs_wcd (M 30) E p n i a = fs_wcd (M 30) E p (E - p).toNat p 0 → fs_A2 g m_Reader_readWord 2 5 [(0, fs_r 29)] [] N K := by
    intro n
    induction n with
    | zero =>
      intro i a N i0 i1 hn oN e6 e10 s1 s2
      have z5 : N 29 5 = E := by rw [oN 29 5 (by omega)]; exact hE
      exact L_Reader_readWord_5 ⟨fun _ => fin N oN (by rw [e6, ← s1]; rfl) (by rw [e10, ← s2]; rfl), fun z => absurd z (by omega)⟩
    | succ n ih =>
      intro i a N i0 i1 hn oN e6 e10 s1 s2
      have z5 : N 29 5 = E := by rw [oN 29 5 (by omega)]; exact hE
      have z8 : N 29 8 = p := by rw [oN 29 8 (by omega)]; exact h8
      have z30 : N 30 i = M 30 i := oN 30 i (by omega)
      refine L_Reader_readWord_5 ?_
      rw [z5, e6, z30, e10, z8]
      have stop : ¬ (97 ≤ M 30 i ∧ M 30 i ≤ 122) → fs_A2 g m_Reader_readWord 2 86 [(0, fs_r 29)] [] N K := fun q => by
        have c : ¬ (i < E ∧ fs_ilt (M 30 i) = true) := fun c => q (of_decide_eq_true c.2)
        rw [fs_scan_n c] at s1
        rw [fs_wcd_n c] at s2
        exact fin N oN (by rw [e6, s1]) (by rw [e10, s2])
      refine ⟨fun z => absurd z (by omega), fun _ => ⟨by omega, by omega, fun z => stop (by omega), fun z => ⟨fun z2 => stop (by omega), fun z2 => ?_⟩⟩⟩
      have c : fs_ilt (M 30 i) = true := decide_eq_true (by omega)
      rw [fs_scan_y (by omega) c] at s1
      have e : fs_wcd (M 30) E p (n + 1) i a = fs_wcd (M 30) E p n (i + 1) (fs_wl a (i - p) (M 30 i)) := if_pos ⟨by omega, c⟩
      rw [e] at s2
      rw [fs_w32_of (x := i - p) (by omega) (by omega)]
      have go : ∀ r, r = fs_wl a (i - p) (M 30 i) → fs_A2 g m_Reader_readWord 2 5 [(0, fs_r 29)] [] (fs_st (fs_st N 29 10 r) 29 6 (fs_w32 ((N 29 6) + 1))) K := fun r hr => by
        rw [e6, fs_w32_of (x := i + 1) (by omega) (by omega)]
        refine ih (i + 1) r _ (by omega) (by omega) (by omega) ((oN.st ⟨rfl, by omega⟩).st ⟨rfl, by omega⟩) fs_st_s ?_ s1 (by rw [hr]; exact s2)
        rw [fs_st_k (by omega)]
        exact fs_st_s
      refine E_Token_withLetter ⟨fun q => ⟨_, rfl, go _ ?_⟩, fun q => ⟨_, rfl, go _ ?_⟩⟩
      · unfold fs_wl
        rw [if_pos q]
      · unfold fs_wl
        rw [if_neg q, fs_w32_of (x := M 30 i - 97) (by omega) (by omega), fs_w32_of (x := M 30 i - 97 + 1) (by omega) (by omega), fs_w32_of (x := 5 - (i - p)) (by omega) (by omega), fs_w32_of (x := 5 * (5 - (i - p))) (by omega) (by omega), show M 30 i - 97 + 1 = M 30 i - 96 from by omega]
  refine E_Reader_readWord (lp (E - p).toNat p 0 _ (by omega) p1 (by omega) (fs_out.rf.st ⟨rfl, by omega⟩) ?_ fs_st_s rfl rfl)
  rw [fs_st_k (by omega)]
  exact hp
end LEXC
