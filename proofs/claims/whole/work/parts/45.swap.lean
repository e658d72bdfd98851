-- ===== swaps of two places of the plan =====
def fs_ct2 (M : fs_M) (p i : Int) : Int := if M (p + 5) (i / 9) ≤ i % 9 then -1 else M (p + 2 + i / 9) (i % 9)
def fs_sw (M : fs_M) (p i j : Int) : fs_M := fs_st (fs_st M (p + 2 + i / 9) (i % 9) (M (p + 2 + j / 9) (j % 9))) (p + 2 + j / 9) (j % 9) (M (p + 2 + i / 9) (i % 9))
theorem fs_sw_o {M : fs_M} {p i j o k : Int} (h : o < p + 2 ∨ p + 4 < o) (i0 : 0 ≤ i) (i1 : i < 27) (j0 : 0 ≤ j) (j1 : j < 27) : fs_sw M p i j o k = M o k := by
  unfold fs_sw
  rw [fs_st_o (by omega), fs_st_o (by omega)]
section SWAP
variable {g : fs_G}
theorem fs_div9 {i : Int} (h0 : 0 ≤ i) (h1 : i < 27) : fs_div i 9 = i / 9 ∧ fs_rem i 9 = i % 9 := ⟨fs_divP h0 (by omega) (by decide) (by decide), fs_remP h0 (by omega) (by decide) (by decide)⟩
theorem sp_houseAt {M : fs_M} {K : fs_K} {p i : Int} (hp : fs_isO 6 p) (h0 : 0 ≤ i) (h1 : i < 27) (hK : K (some (fs_i (fs_ct2 M p i))) M) : fs_C2 g m_Plan_houseAt 2 [fs_r p, fs_i i] M K := by
  obtain ⟨e1, e2⟩ := fs_div9 h0 h1
  unfold fs_ct2 at hK
  refine E_Plan_houseAt hp ?_
  rw [e1, e2]
  refine E_Plan_houseOf hp ⟨by omega, by omega, fun z => ⟨_, rfl, ?_⟩, fun z => ⟨by omega, by omega, _, rfl, ?_⟩⟩
  · rw [if_pos z] at hK; exact hK
  · rw [if_neg z] at hK; exact hK
theorem sp_areUnlike {M : fs_M} {K : fs_K} {p i j : Int} (hp : fs_isO 6 p) (i0 : 0 ≤ i) (i1 : i < 27) (j0 : 0 ≤ j) (j1 : j < 27) (hn : fs_ct2 M p i = -1 ∨ fs_ct2 M p j = -1 ∨ fs_ct2 M p i = fs_ct2 M p j → K (some (fs_i 0)) M) (hy : ¬ (fs_ct2 M p i = -1 ∨ fs_ct2 M p j = -1 ∨ fs_ct2 M p i = fs_ct2 M p j) → K (some (fs_i 1)) M) : fs_C2 g m_Plan_areUnlike 3 [fs_r p, fs_i i, fs_i j] M K :=
  E_Plan_areUnlike hp (sp_houseAt hp i0 i1 ⟨_, rfl, sp_houseAt hp j0 j1 ⟨_, rfl, fun a => hn (Or.inl a), fun a => ⟨fun b => hn (Or.inr (Or.inl b)), fun b => ⟨fun c => hn (Or.inr (Or.inr c)), fun c => hy (by omega)⟩⟩⟩⟩)
theorem sp_swap {M : fs_M} {K : fs_K} {p i j : Int} (hp : fs_isO 6 p) (i0 : 0 ≤ i) (i1 : i < 27) (j0 : 0 ≤ j) (j1 : j < 27) (hK : K none (fs_sw M p i j)) : fs_C2 g m_Plan_swap 1 [fs_r p, fs_i i, fs_i j] M K := by
  obtain ⟨a1, a2⟩ := fs_div9 i0 i1
  obtain ⟨b1, b2⟩ := fs_div9 j0 j1
  refine E_Plan_swap hp ?_
  rw [a1, a2, b1, b2]
  exact ⟨by omega, by omega, by omega, by omega, by omega, by omega, by omega, by omega, hK⟩
end SWAP
