-- ===== out =====
def fs_noOut (E : fs_M) (a b : Int) : Prop := a < 0 ∨ E 1 5 ≤ a ∨ fs_bit (E 1 4) a = 0 ∨ fs_bit (E 31 3) a = b
/-- the same houses are the script's own for both -/
def fs_own (E : fs_M) : Prop := ∀ h, 0 ≤ h → h < E 1 5 → (E 233 h = 0 ↔ fs_bit (E 1 4) h = 0)
section OPS6
variable {g : fs_G}
theorem oc_out {M : fs_M} {K : fs_K} {a b : Int} (hp : fs_pr M) (h0 : fs_noOut M a b → K (some (fs_i 0)) M)
    (h1 : ¬ fs_noOut M a b → ∀ M', fs_pcC M M' → fs_out (fun o k => fs_FPa o k ∨ (o = 31 ∧ k = 3) ∨ (o = 60 ∧ k = 5)) M M' → M' 31 3 = fs_xor (M 31 3) (fs_shl 1 a) → M' 60 5 = 0 → K (some (fs_i 1)) M') : fs_C2 g m_Fs_out 3 [fs_r 0, fs_i a, fs_i b] M K := by
  unfold fs_noOut at h0 h1
  have l45 : ∀ x, x = fs_bit (M 31 3) a → ¬ a < 0 → ¬ M 1 5 ≤ a → ¬ fs_bit (M 1 4) a = 0 → fs_A2 g m_Fs_out 3 45 [(0, fs_r 0), (1, fs_i a), (2, fs_i b)] [fs_i x] M K := fun x hx z z2 z3 => by
    refine L_Fs_out_45 ⟨fun w => oc_turn (Or.inr rfl) hp (h1 (by omega)), fun w => h0 (by omega)⟩
  have b01 := fs_bit01 (M 31 3) a
  refine E_Fs_out (E_Script_hasHouse io_1 ⟨fun z => ⟨0, rfl, fun _ => h0 (by omega), fun w => absurd rfl w⟩, fun z => ⟨fun z2 => ⟨0, rfl, fun _ => h0 (by omega), fun w => absurd rfl w⟩, fun z2 => ⟨1, rfl, fun w => absurd w (by decide), fun _ => E_Fs_bit ⟨_, rfl, fun w => ?_, fun w => E_Fs_bit ⟨_, rfl, fun w3 => ?_, fun w3 => ?_⟩⟩⟩⟩⟩)
  · have w2 : fs_bit (M 1 4) a = 0 := w
    exact h0 (by omega)
  · have w2 : ¬ fs_bit (M 1 4) a = 0 := w
    have w4 : ¬ fs_bit (M 31 3) a = 1 := w3
    exact l45 0 (by omega) z z2 w2
  · have w2 : ¬ fs_bit (M 1 4) a = 0 := w
    have w4 : fs_bit (M 31 3) a = 1 := w3
    exact l45 1 (by omega) z z2 w2
theorem om_out {E M : fs_M} {K : fs_K} {a b : Int} (hB : fs_bE E) (hT : fs_rt E) (hO : fs_own E) (hp : fs_pr E) (hE : fs_env E M) (hM : ∀ o k, 241 ≤ o → o ≤ 244 → M o k = E o k) (h38 : M 226 38 = E 226 38) (h0 : fs_noOut E a b → K (some (fs_i 0)) (fs_st M 226 0 0))
    (h1 : ¬ fs_noOut E a b → ∀ M', fs_pcM (fs_st M 226 0 0) M' → fs_out (fun o k => fs_FK o k ∨ (o = 244 ∧ k = 0)) (fs_st M 226 0 0) M' → M' 244 0 = fs_xor (E 31 3) (fs_shl 1 a) → K (some (fs_i 1)) M') : fs_C2 g m_Mo_out 3 [fs_r 226, fs_i a, fs_i b] M K := by
  have h5 := hB.2.1
  obtain ⟨p1, p2, p3, p4, p5, p6, p7⟩ := hp
  have e228 : fs_st M 226 0 0 228 0 = E 1 5 := by rw [fs_st_o (by decide), hE 228 0 (by unfold fs_eC; omega), hT.1]
  have e244 : fs_st M 226 0 0 244 0 = E 31 3 := by rw [fs_st_o (by decide), hM 244 0 (by decide) (by decide), p6.2.1]
  have e233 : fs_st M 226 0 0 233 a = E 233 a := by rw [fs_st_o (by decide), hE 233 a (by unfold fs_eC; omega)]
  have e38 : fs_st M 226 0 0 226 38 = E 95 2 := by rw [fs_st_k (by decide), h38, p5]
  unfold fs_noOut at h0 h1
  have l41 : ∀ x, x = fs_bit (E 31 3) a → ¬ a < 0 → ¬ E 1 5 ≤ a → ¬ fs_bit (E 1 4) a = 0 → fs_A2 g m_Mo_out 3 41 [(0, fs_r 226), (1, fs_i a), (2, fs_i b)] [fs_i x] (fs_st M 226 0 0) K := fun x hx z z2 z3 => by
    refine L_Mo_out_41 ⟨fun w => om_turn (Or.inr rfl) (by omega) (by omega) (fun M' c o e => h1 (by omega) M' c o (by rw [e, e244])), fun w => h0 (by omega)⟩
  have b01 := fs_bit01 (E 31 3) a
  refine E_Mo_out (E_Mo_isHouse ⟨fun z => ⟨0, rfl, fun _ => h0 (by omega), fun w => absurd rfl w⟩, fun z => ⟨fun z2 => ⟨0, rfl, fun _ => h0 (by omega), fun w => absurd rfl w⟩, fun z2 => ⟨1, rfl, fun w => absurd w (by decide), fun _ => ⟨by omega, by omega, ?_⟩⟩⟩⟩)
  have ow := hO a (by omega) (by omega)
  rw [e233, e244]
  refine ⟨fun w => h0 (by have := ow.1 w; omega), fun w => ⟨fun w3 => ?_, fun w3 => ?_⟩⟩
  · have w4 : ¬ fs_bit (E 31 3) a = 1 := w3
    exact l41 0 (by omega) z (by omega) (fun q => w (ow.2 q))
  · have w4 : fs_bit (E 31 3) a = 1 := w3
    exact l41 1 (by omega) z (by omega) (fun q => w (ow.2 q))
end OPS6
