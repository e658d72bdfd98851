-- ===== the model's text(): how it begins, how it ends =====
/-- half of a row of the model -/
def fs_hm (o : Int) : Int := if o = 228 then 4 else if o ≤ 233 then 6 else if o ≤ 236 then 3 else if o ≤ 238 then 4 else 64
/-- the rows 228 .. b - 1 have their second halves in the first ones -/
def fs_hfv (N M : fs_M) (b : Int) : Prop := ∀ o k, M o k = if 228 ≤ o ∧ o < b ∧ 0 ≤ k ∧ k < fs_hm o then N o (fs_hm o + k) else N o k
theorem fs_hfv.at {N M : fs_M} {b o k : Int} (h : fs_hfv N M b) (h1 : 228 ≤ o) (h2 : o < b) (h3 : 0 ≤ k) (h4 : k < fs_hm o) : M o k = N o (fs_hm o + k) := by
  rw [h o k, if_pos ⟨h1, h2, h3, h4⟩]
theorem fs_hfv.no {N M : fs_M} {b o k : Int} (h : fs_hfv N M b) (h1 : ¬ (228 ≤ o ∧ o < b ∧ 0 ≤ k ∧ k < fs_hm o)) : M o k = N o k := by
  rw [h o k, if_neg h1]
theorem fs_hfv.next {N M M' : fs_M} {b : Int} (h : fs_hfv N M b) (b0 : 228 ≤ b) (he : ∀ o k, M' o k = if o = b ∧ 0 ≤ k ∧ k < fs_hm b then M b (fs_hm b + k) else M o k) : fs_hfv N M' (b + 1) := by
  intro o k
  rw [he o k]
  by_cases c : o = b ∧ 0 ≤ k ∧ k < fs_hm b
  · obtain ⟨rfl, c2, c3⟩ := c
    rw [if_pos ⟨rfl, c2, c3⟩, if_pos ⟨b0, by omega, c2, c3⟩, h.no (by omega)]
  · rw [if_neg c]
    by_cases d : 228 ≤ o ∧ o < b ∧ 0 ≤ k ∧ k < fs_hm o
    · rw [if_pos ⟨d.1, by omega, d.2.2.1, d.2.2.2⟩]
      exact h.at d.1 d.2.1 d.2.2.1 d.2.2.2
    · rw [if_neg (fun z => ?_)]
      · exact h.no d
      · by_cases e : o = b
        · subst e
          exact c ⟨rfl, z.2.2.1, z.2.2.2⟩
        · exact d ⟨z.1, by omega, z.2.2.1, z.2.2.2⟩
section MEND
variable {g : fs_G} {M N A : fs_M} {T : Int → Int} {E : Int}
theorem sp_half {K : fs_K} {b : Int} {n0 : Nat} (hi : fs_isA 0 n0 b) (hd : fs_div (n0 : Int) 2 = fs_hm b) (hm : 2 * fs_hm b = n0) (h1 : 1 ≤ fs_hm b) (h64 : fs_hm b ≤ 64) (hb : 228 ≤ b) (h : fs_hfv N M b) (hK : ∀ M', fs_hfv N M' (b + 1) → K none M') : fs_C2 g m_Mo_half 1 [fs_r b] M K := by
  obtain ⟨m, hmm⟩ : ∃ m, fs_hm b = m := ⟨_, rfl⟩
  rw [hmm] at hd hm h1 h64
  have lp : ∀ (n : Nat) (i : Int) (N2 : fs_M), m - i = n → 0 ≤ i → (∀ o k, N2 o k = if o = b ∧ 0 ≤ k ∧ k < i then M b (m + k) else M o k) → fs_A2 g m_Mo_half 1 7 [(0, fs_r b), (1, fs_i m), (2, fs_i i)] [] N2 K := by
    intro n
    induction n with
    | zero =>
      intro i N2 hn i0 e
      refine L_Mo_half_7 hi ⟨fun _ => hK N2 (h.next hb (fun o k => ?_)), fun z => absurd z (by omega)⟩
      rw [e o k, hmm, show i = m from by omega]
    | succ n ih =>
      intro i N2 hn i0 e
      refine L_Mo_half_7 hi ⟨fun z => absurd z (by omega), fun _ => ?_⟩
      rw [fs_w32_of (x := m + i) (by omega) (by omega), fs_w32_of (x := i + 1) (by omega) (by omega)]
      refine ⟨by omega, by omega, by omega, by omega, ?_⟩
      refine ih (i + 1) _ (by omega) (by omega) (fun o k => ?_)
      have v : N2 b (m + i) = M b (m + i) := by
        rw [e b (m + i), if_neg (by omega)]
      rw [v]
      by_cases c : o = b ∧ k = i
      · rw [c.1, c.2, fs_st_s, if_pos ⟨rfl, i0, by omega⟩]
      · have w : fs_st N2 b i (M b (m + i)) o k = N2 o k := by
          by_cases d : o = b
          · exact fs_st_k (by omega)
          · exact fs_st_o d
        rw [w, e o k]
        by_cases d : o = b ∧ 0 ≤ k ∧ k < i
        · rw [if_pos d, if_pos ⟨d.1, d.2.1, by omega⟩]
        · rw [if_neg d, if_neg (fun z => d ⟨z.1, z.2.1, by omega⟩)]
  refine E_Mo_half hi ⟨by omega, ?_⟩
  rw [hd]
  exact lp m.toNat 0 M (by omega) (by omega) (fun o k => by rw [if_neg (by omega)])
theorem sp_beginsM {K : fs_K} (hK : ∀ M', fs_out (fun o k => (o = 242 ∧ 0 ≤ k ∧ k < 3) ∨ (243 ≤ o ∧ o ≤ 246 ∧ k = 0)) M M' → (∀ d, 0 ≤ d → d < 3 → M' 242 d = 0) → M' 243 0 = 0 → M' 244 0 = 0 → M' 245 0 = M 228 2 → M' 246 0 = 0 → K none M') : fs_C2 g m_Mo_begins 1 [fs_r 226] M K := by
  have lp : ∀ (n : Nat) (i : Int) (N2 : fs_M), 3 - i = n → 0 ≤ i → fs_out (fun o k => (o = 242 ∧ 0 ≤ k ∧ k < 3) ∨ (243 ≤ o ∧ o ≤ 246 ∧ k = 0)) M N2 → (∀ d, 0 ≤ d → d < i → N2 242 d = 0) → fs_A2 g m_Mo_begins 1 2 [(0, fs_r 226), (1, fs_i i)] [] N2 K := by
    intro n
    induction n with
    | zero =>
      intro i N2 hn i0 oN ez
      refine L_Mo_begins_2 ⟨fun _ => ?_, fun z => absurd z (by omega)⟩
      have p : ∀ o k, ¬ ((o = 242 ∧ 0 ≤ k ∧ k < 3) ∨ (243 ≤ o ∧ o ≤ 246 ∧ k = 0)) → N2 o k = M o k := oN
      have e2 : fs_st (fs_st N2 243 0 0) 244 0 0 228 2 = N2 228 2 := by
        rw [fs_st_o (by omega), fs_st_o (by omega)]
      have e2' : N2 228 2 = M 228 2 := p 228 2 (by omega)
      rw [e2'] 
      refine hK _ ((((oN.st (Or.inr ⟨by omega, by omega, rfl⟩)).st (Or.inr ⟨by omega, by omega, rfl⟩)).st (Or.inr ⟨by omega, by omega, rfl⟩)).st (Or.inr ⟨by omega, by omega, rfl⟩)) (fun d d0 d3 => ?_) ?_ ?_ ?_ ?_
      · rw [fs_st_o (by omega), fs_st_o (by omega), fs_st_o (by omega), fs_st_o (by omega)]
        exact ez d d0 (by omega)
      · simp [fs_st]
      · simp [fs_st]
      · simp [fs_st]
      · simp [fs_st]
    | succ n ih =>
      intro i N2 hn i0 oN ez
      refine L_Mo_begins_2 ⟨fun z => absurd z (by omega), fun _ => ⟨i0, ?_⟩⟩
      rw [fs_w32_of (x := i + 1) (by omega) (by omega)]
      refine ih (i + 1) _ (by omega) (by omega) (oN.st (Or.inl ⟨rfl, by omega, by omega⟩)) (fun d d0 d1 => ?_)
      by_cases c : d = i
      · rw [c]
        exact fs_st_s
      · rw [fs_st_k c]
        exact ez d d0 (by omega)
  exact E_Mo_begins (lp 3 0 M rfl (by omega) fs_out.rf (fun d d0 d1 => absurd d1 (by omega)))
theorem sp_own233 {K : fs_K} (h01 : ∀ k, 0 ≤ k → k < 12 → N 233 k = 0 ∨ N 233 k = 1) (h : fs_hfv N M 233) (hK : ∀ M', fs_hfv N M' 234 → ((6 : Int) ≤ 6 → fs_C2 g m_Mo_half 1 [fs_r 234] M' (fun v M8 => v = none ∧ fs_C2 g m_Mo_half 1 [fs_r 235] M8 (fun v M9 => v = none ∧ fs_C2 g m_Mo_half 1 [fs_r 236] M9 (fun v M10 => v = none ∧ fs_C2 g m_Mo_half 1 [fs_r 237] M10 (fun v M11 => v = none ∧ fs_C2 g m_Mo_half 1 [fs_r 238] M11 (fun v M12 => v = none ∧ fs_C2 g m_Mo_half 1 [fs_r 239] M12 (fun v M13 => v = none ∧ fs_C2 g m_Mo_half 1 [fs_r 240] M13 (fun v M14 => v = none ∧ fs_C2 g m_Mo_begins 1 [fs_r 226] (fs_st (fs_st (fs_st (fs_st M14 226 68 0) 226 69 (-1)) 226 37 0) 226 38 0) (fun v M15 => v = none ∧ K (some (fs_i (M15 226 17))) M15)))))))))) : fs_A2 g m_Mo_text 160 203 [(0, fs_r 226), (2, fs_i 0)] [] M K := by
  have hm6 : fs_hm 233 = 6 := by decide
  have lp : ∀ (n : Nat) (i : Int) (N2 : fs_M), 6 - i = n → 0 ≤ i → (∀ o k, N2 o k = if o = 233 ∧ 0 ≤ k ∧ k < i then M 233 (6 + k) else M o k) → fs_A2 g m_Mo_text 160 203 [(0, fs_r 226), (2, fs_i i)] [] N2 K := by
    intro n
    induction n with
    | zero =>
      intro i N2 hn i0 e
      have i6 : i = 6 := by omega
      subst i6
      exact L_Mo_text_203 ⟨hK N2 (h.next (by omega) (fun o k => by rw [e o k, hm6])), fun z => absurd z (by omega)⟩
    | succ n ih =>
      intro i N2 hn i0 e
      refine L_Mo_text_203 ⟨fun z => absurd z (by omega), fun _ => ?_⟩
      have v : N2 233 (6 + i) = M 233 (6 + i) := by
        rw [e 233 (6 + i), if_neg (by omega)]
      have w : M 233 (6 + i) = N 233 (6 + i) := h.no (by omega)
      rw [fs_w32_of (x := 6 + i) (by omega) (by omega), fs_w32_of (x := i + 1) (by omega) (by omega), v]
      refine ⟨by omega, by omega, by omega, by rw [w]; exact h01 (6 + i) (by omega) (by omega), ?_⟩
      refine ih (i + 1) _ (by omega) (by omega) (fun o k => ?_)
      by_cases c : o = 233 ∧ k = i
      · rw [c.1, c.2, fs_st_s, if_pos ⟨rfl, i0, by omega⟩]
      · have w : fs_st N2 233 i (M 233 (6 + i)) o k = N2 o k := by
          by_cases d : o = 233
          · exact fs_st_k (by omega)
          · exact fs_st_o d
        rw [w, e o k]
        by_cases d : o = 233 ∧ 0 ≤ k ∧ k < i
        · rw [if_pos d, if_pos ⟨d.1, d.2.1, by omega⟩]
        · rw [if_neg d, if_neg (fun z => d ⟨z.1, z.2.1, by omega⟩)]
  exact lp 6 0 M rfl (by omega) (fun o k => by rw [if_neg (by omega)])
/-- a TEXT that is told: what the model is then -/
theorem sp_endM {K : fs_K} (hf : M 226 23 = 0) (h24 : M 226 24 = -1) (h01 : ∀ k, 0 ≤ k → k < 12 → M 233 k = 0 ∨ M 233 k = 1)
    (hK : ∀ M', (∀ o k, 228 ≤ o → o ≤ 240 → 0 ≤ k → k < fs_hm o → M' o k = M o (fs_hm o + k)) → (∀ o k, 228 ≤ o → o ≤ 240 → ¬ (0 ≤ k ∧ k < fs_hm o) → M' o k = M o k) → (∀ o k, ¬ (228 ≤ o ∧ o ≤ 240) → ¬ (o = 242 ∧ 0 ≤ k ∧ k < 3) → ¬ (243 ≤ o ∧ o ≤ 246 ∧ k = 0) → ¬ (o = 226 ∧ (k = 25 ∨ k = 26 ∨ k = 37 ∨ k = 38 ∨ k = 68 ∨ k = 69)) → M' o k = M o k) → (∀ d, 0 ≤ d → d < 3 → M' 242 d = 0) → M' 243 0 = 0 → M' 244 0 = 0 → M' 245 0 = M 228 6 → M' 246 0 = 0 →
      M' 226 25 = 0 → M' 226 26 = -1 → M' 226 37 = 0 → M' 226 38 = 0 → M' 226 68 = 0 → M' 226 69 = -1 → K (some (fs_i (M 226 17))) M') : fs_A2 g m_Mo_text 160 141 [(0, fs_r 226)] [] M K := by
  refine L_Mo_text_141 ⟨fun _ => ?_, fun z => absurd hf z⟩
  rw [hf, h24]
  obtain ⟨N, hN⟩ : ∃ N, fs_st (fs_st M 226 25 0) 226 26 (-1) = N := ⟨_, rfl⟩
  rw [hN]
  have pN : ∀ o k, ¬ (o = 226 ∧ (k = 25 ∨ k = 26)) → N o k = M o k := fun o k c => by
    rw [← hN]
    by_cases d : o = 226
    · rw [fs_st_k (by omega), fs_st_k (by omega)]
    · rw [fs_st_o d, fs_st_o d]
  have n25 : N 226 25 = 0 := by rw [← hN]; simp [fs_st]
  have n26 : N 226 26 = -1 := by rw [← hN]; simp [fs_st]
  have st0 : fs_hfv N N 228 := fun o k => by rw [if_neg (by omega)]
  refine sp_half (n0 := 8) ia_228 (by decide) (by decide) (by decide) (by decide) (by decide) st0 (fun M3 h3 => ⟨rfl, ?_⟩)
  refine sp_half (n0 := 12) ia_229 (by decide) (by decide) (by decide) (by decide) (by decide) h3 (fun M4 h4 => ⟨rfl, ?_⟩)
  refine sp_half (n0 := 12) ia_230 (by decide) (by decide) (by decide) (by decide) (by decide) h4 (fun M5 h5 => ⟨rfl, ?_⟩)
  refine sp_half (n0 := 12) ia_231 (by decide) (by decide) (by decide) (by decide) (by decide) h5 (fun M6 h6 => ⟨rfl, ?_⟩)
  refine sp_half (n0 := 12) ia_232 (by decide) (by decide) (by decide) (by decide) (by decide) h6 (fun M7 h7 => ⟨rfl, ?_⟩)
  refine sp_own233 (fun k k0 k1 => by rw [pN 233 k (by omega)]; exact h01 k k0 k1) h7 (fun M7' h7' _ => ?_)
  refine sp_half (n0 := 6) ia_234 (by decide) (by decide) (by decide) (by decide) (by decide) h7' (fun M8 h8 => ⟨rfl, ?_⟩)
  refine sp_half (n0 := 6) ia_235 (by decide) (by decide) (by decide) (by decide) (by decide) h8 (fun M9 h9 => ⟨rfl, ?_⟩)
  refine sp_half (n0 := 6) ia_236 (by decide) (by decide) (by decide) (by decide) (by decide) h9 (fun M10 h10 => ⟨rfl, ?_⟩)
  refine sp_half (n0 := 8) ia_237 (by decide) (by decide) (by decide) (by decide) (by decide) h10 (fun M11 h11 => ⟨rfl, ?_⟩)
  refine sp_half (n0 := 8) ia_238 (by decide) (by decide) (by decide) (by decide) (by decide) h11 (fun M12 h12 => ⟨rfl, ?_⟩)
  refine sp_half (n0 := 128) ia_239 (by decide) (by decide) (by decide) (by decide) (by decide) h12 (fun M13 h13 => ⟨rfl, ?_⟩)
  refine sp_half (n0 := 128) ia_240 (by decide) (by decide) (by decide) (by decide) (by decide) h13 (fun M14 h14 => ⟨rfl, ?_⟩)
  have h14' : fs_hfv N M14 241 := h14
  clear h3 h4 h5 h6 h7 h7' h8 h9 h10 h11 h12 h13 st0
  obtain ⟨Q, hQ⟩ : ∃ Q, fs_st (fs_st (fs_st (fs_st M14 226 68 0) 226 69 (-1)) 226 37 0) 226 38 0 = Q := ⟨_, rfl⟩
  rw [hQ]
  have pQ : ∀ o k, ¬ (o = 226 ∧ (k = 37 ∨ k = 38 ∨ k = 68 ∨ k = 69)) → Q o k = M14 o k := fun o k c => by
    rw [← hQ]
    by_cases d : o = 226
    · rw [fs_st_k (by omega), fs_st_k (by omega), fs_st_k (by omega), fs_st_k (by omega)]
    · rw [fs_st_o d, fs_st_o d, fs_st_o d, fs_st_o d]
  have q37 : Q 226 37 = 0 := by rw [← hQ]; simp [fs_st]
  have q38 : Q 226 38 = 0 := by rw [← hQ]; simp [fs_st]
  have q68 : Q 226 68 = 0 := by rw [← hQ]; simp [fs_st]
  have q69 : Q 226 69 = -1 := by rw [← hQ]; simp [fs_st]
  have hm4 : fs_hm 228 = 4 := by decide
  refine sp_beginsM (fun M' o' ez e3 e4 e5 e6 => ⟨rfl, ?_⟩)
  have p' : ∀ o k, ¬ ((o = 242 ∧ 0 ≤ k ∧ k < 3) ∨ (243 ≤ o ∧ o ≤ 246 ∧ k = 0)) → M' o k = Q o k := o'
  have lo : ∀ o k, ¬ (228 ≤ o ∧ o ≤ 240) → M14 o k = N o k := fun o k c => h14'.no (by omega)
  have e17 : M' 226 17 = M 226 17 := by
    rw [p' 226 17 (by omega), pQ 226 17 (by omega), lo 226 17 (by omega), pN 226 17 (by omega)]
  rw [e17]
  refine hK M' (fun o k a b c d => ?_) (fun o k a b c => ?_) (fun o k a b c d => ?_) ez e3 e4 ?_ e6 ?_ ?_ ?_ ?_ ?_ ?_
  · rw [p' o k (by omega), pQ o k (by omega), h14'.at a (by omega) c d, pN o _ (by omega)]
  · rw [p' o k (by omega), pQ o k (by omega), h14'.no (fun z => c z.2.2), pN o _ (by omega)]
  · rw [p' o k (by omega), pQ o k (by omega), lo o k a, pN o k (by omega)]
  · rw [e5, pQ 228 2 (by omega), h14'.at (by omega) (by omega) (by omega) (by rw [hm4]; omega), hm4, pN 228 _ (by omega)]
    rfl
  · rw [p' 226 25 (by omega), pQ 226 25 (by omega), lo 226 25 (by omega)]
    exact n25
  · rw [p' 226 26 (by omega), pQ 226 26 (by omega), lo 226 26 (by omega)]
    exact n26
  · rw [p' 226 37 (by omega)]
    exact q37
  · rw [p' 226 38 (by omega)]
    exact q38
  · rw [p' 226 68 (by omega)]
    exact q68
  · rw [p' 226 69 (by omega)]
    exact q69
end MEND
