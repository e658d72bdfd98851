-- ===== glass =====
def fs_noGlass (E : fs_M) (a b : Int) : Prop := a < 0 ∨ E 1 5 ≤ a ∨ fs_bit (E 31 2) a = b
section OPS5
variable {g : fs_G}
theorem oc_glass {M : fs_M} {K : fs_K} {a b : Int} (hp : fs_pr M) (h0 : fs_noGlass M a b → K (some (fs_i 0)) M)
    (h1 : ¬ fs_noGlass M a b → ∀ M', fs_pcC M M' → fs_out (fun o k => fs_FPa o k ∨ (o = 31 ∧ k = 2) ∨ (o = 60 ∧ k = 5)) M M' → M' 31 2 = fs_xor (M 31 2) (fs_shl 1 a) → M' 60 5 = 0 → K (some (fs_i 1)) M') : fs_C2 g m_Fs_glass 3 [fs_r 0, fs_i a, fs_i b] M K := by
  unfold fs_noGlass at h0 h1
  have l31 : ∀ x, x = fs_bit (M 31 2) a → ¬ a < 0 → ¬ M 1 5 ≤ a → fs_A2 g m_Fs_glass 3 31 [(0, fs_r 0), (1, fs_i a), (2, fs_i b)] [fs_i x] M K := fun x hx z z2 => by
    refine L_Fs_glass_31 ⟨fun w => oc_turn (Or.inl rfl) hp (h1 (by omega)), fun w => h0 (by omega)⟩
  have b01 := fs_bit01 (M 31 2) a
  refine E_Fs_glass (E_Script_hasHouse io_1 ⟨fun z => ⟨0, rfl, fun _ => h0 (by omega), fun w => absurd rfl w⟩, fun z => ⟨fun z2 => ⟨0, rfl, fun _ => h0 (by omega), fun w => absurd rfl w⟩, fun z2 => ⟨1, rfl, fun w => absurd w (by decide), fun _ => E_Fs_bit ⟨_, rfl, fun w => ?_, fun w => ?_⟩⟩⟩⟩)
  · have w2 : ¬ fs_bit (M 31 2) a = 1 := w
    exact l31 0 (by omega) z z2
  · have w2 : fs_bit (M 31 2) a = 1 := w
    exact l31 1 (by omega) z z2
theorem om_glass {E M : fs_M} {K : fs_K} {a b : Int} (hT : fs_rt E) (hp : fs_pr E) (hE : fs_env E M) (hM : ∀ o k, 241 ≤ o → o ≤ 244 → M o k = E o k) (h38 : M 226 38 = E 226 38) (h0 : fs_noGlass E a b → K (some (fs_i 0)) (fs_st M 226 0 0))
    (h1 : ¬ fs_noGlass E a b → ∀ M', fs_pcM (fs_st M 226 0 0) M' → fs_out (fun o k => fs_FK o k ∨ (o = 243 ∧ k = 0)) (fs_st M 226 0 0) M' → M' 243 0 = fs_xor (E 31 2) (fs_shl 1 a) → K (some (fs_i 1)) M') : fs_C2 g m_Mo_glass 3 [fs_r 226, fs_i a, fs_i b] M K := by
  obtain ⟨p1, p2, p3, p4, p5, p6, p7⟩ := hp
  have e228 : fs_st M 226 0 0 228 0 = E 1 5 := by rw [fs_st_o (by decide), hE 228 0 (by unfold fs_eC; omega), hT.1]
  have e243 : fs_st M 226 0 0 243 0 = E 31 2 := by rw [fs_st_o (by decide), hM 243 0 (by decide) (by decide), p6.1]
  have e38 : fs_st M 226 0 0 226 38 = E 95 2 := by rw [fs_st_k (by decide), h38, p5]
  unfold fs_noGlass at h0 h1
  have l32 : ∀ x, x = fs_bit (E 31 2) a → ¬ a < 0 → ¬ E 1 5 ≤ a → fs_A2 g m_Mo_glass 3 32 [(0, fs_r 226), (1, fs_i a), (2, fs_i b)] [fs_i x] (fs_st M 226 0 0) K := fun x hx z z2 => by
    refine L_Mo_glass_32 ⟨fun w => om_turn (Or.inl rfl) (by omega) (by omega) (fun M' c o e => h1 (by omega) M' c o (by rw [e, e243])), fun w => h0 (by omega)⟩
  have b01 := fs_bit01 (E 31 2) a
  refine E_Mo_glass (E_Mo_isHouse ⟨fun z => ⟨0, rfl, fun _ => h0 (by omega), fun w => absurd rfl w⟩, fun z => ⟨fun z2 => ⟨0, rfl, fun _ => h0 (by omega), fun w => absurd rfl w⟩, fun z2 => ⟨1, rfl, fun w => absurd w (by decide), fun _ => ?_⟩⟩⟩)
  rw [e243]
  refine ⟨fun w => ?_, fun w => ?_⟩
  · have w2 : ¬ fs_bit (E 31 2) a = 1 := w
    exact l32 0 (by omega) z (by omega)
  · have w2 : fs_bit (E 31 2) a = 1 := w
    exact l32 1 (by omega) z (by omega)
end OPS5
