-- ===== drop, glass =====
def fs_vDrop (E : fs_M) (a : Int) : Int := if a < 0 ∨ E 1 9 ≤ a ∨ E 36 a = 0 then -1 else E (33 + a) (E 36 a - 1)
def fs_noDrop (E : fs_M) (a : Int) : Prop := a < 0 ∨ E 1 9 ≤ a ∨ E 36 a = 0
section OPS4
variable {g : fs_G}
theorem oc_drop {M : fs_M} {K : fs_K} {a : Int} (hB : fs_bE M) (hp : fs_pr M) (h0 : fs_noDrop M a → K (some (fs_i (-1))) M)
    (h1 : ¬ fs_noDrop M a → ∀ M', fs_pcC M M' → fs_out (fun o k => fs_FPa o k ∨ (o = 36 ∧ k = a)) M M' → M' 36 a = M 36 a - 1 → K (some (fs_i (M (33 + a) (M 36 a - 1)))) M') : fs_C2 g m_Fs_drop 3 [fs_r 0, fs_i a] M K := by
  have h3 := hB.2.2.2.1
  obtain ⟨p1, p2, p3, p4, p5, p6, p7⟩ := hp
  unfold fs_noDrop at h0 h1
  refine E_Fs_drop (E_Script_hasDark io_1 ⟨fun z => ⟨0, rfl, fun _ => h0 (by omega), fun w => absurd rfl w⟩, fun z => ⟨fun z2 => ⟨0, rfl, fun _ => h0 (by omega), fun w => absurd rfl w⟩, fun z2 => ⟨1, rfl, fun w => absurd w (by decide), fun _ => ⟨by omega, by omega, fun z5 => ?_, fun z5 => h0 (by omega)⟩⟩⟩⟩)
  obtain ⟨x1, x2, x3, x4⟩ := p6.2.2 a (by omega) (by omega)
  have x2' : 0 ≤ M 36 a := x2
  have x3' : M 36 a ≤ 9 := x3
  refine sp_remember p1 p2 p3 p4 (fun M1 o1 e1 e2 c1 cj => ⟨rfl, ?_⟩)
  have e36 : M1 36 a = M 36 a := o1 36 a (by unfold fs_FPa; omega)
  rw [e36, fs_w32_of (by omega) (by omega)]
  refine ⟨by omega, by omega, ?_⟩
  have e33 : fs_st M1 36 a (M 36 a - 1) (33 + a) (M 36 a - 1) = M (33 + a) (M 36 a - 1) := by rw [fs_st_o (by omega)]; exact o1 _ _ (by unfold fs_FPa; omega)
  rw [e33]
  have r1 : ∀ o k, o ≠ 36 → fs_st M1 36 a (M 36 a - 1) o k = M1 o k := fun o k q => fs_st_o q
  have pp : ∀ o j, fs_pcp (fs_st M1 36 a (M 36 a - 1)) (fs_slot o j) M1 (fs_slot o j) := fun o j => fs_pcp_rf (fun x k q w => r1 x k (by have := fs_slot_b o j; omega))
  refine h1 (by omega) _ ⟨?_, by rw [r1 _ _ (by decide)]; exact e1, by rw [r1 _ _ (by decide)]; exact e2, (pp _ _).tr c1, fun j j0 j1 => (pp _ _).tr (cj j j0 j1)⟩ ?_ ?_
  · refine fs_out.st (o1.wk (fun _ _ q => Or.inl q)) ?_
    exact Or.inr (Or.inl (by unfold fs_now3; omega))
  · refine fs_out.st (o1.wk (fun _ _ q => Or.inl q)) ?_
    exact Or.inr ⟨rfl, rfl⟩
  · rw [fs_st_s]
theorem om_drop {E M : fs_M} {K : fs_K} {a : Int} (hB : fs_bE E) (hT : fs_rt E) (hp : fs_pr E) (hE : fs_env E M) (hM : ∀ o k, 241 ≤ o → o ≤ 244 → M o k = E o k) (h38 : M 226 38 = E 226 38) (h0 : fs_noDrop E a → K (some (fs_i (-1))) (fs_st M 226 0 0))
    (h1 : ¬ fs_noDrop E a → ∀ M', fs_pcM M M' → fs_out (fun o k => fs_FK o k ∨ (o = 226 ∧ k = 0) ∨ (o = 242 ∧ k = a)) M M' → M' 242 a = E 36 a - 1 → K (some (fs_i (E (33 + a) (E 36 a - 1)))) M') : fs_C2 g m_Mo_drop 3 [fs_r 226, fs_i a] M K := by
  have h3 := hB.2.2.2.1
  obtain ⟨p1, p2, p3, p4, p5, p6, p7⟩ := hp
  have e2281 : fs_st M 226 0 0 228 1 = E 1 9 := by rw [fs_st_o (by decide), hE 228 1 (by unfold fs_eC; omega), hT.2.1]
  have main : ¬ a < 0 → ¬ E 1 9 ≤ a → fs_st M 226 0 0 242 a = E 36 a ∧ 0 ≤ E 36 a ∧ E 36 a ≤ 9 ∧ ∀ k, 0 ≤ k → k < E 36 a → E (33 + a) k = E 241 (9 * a + k) := fun z z2 => by
    obtain ⟨x1, x2, x3, x4⟩ := p6.2.2 a (by omega) (by omega)
    have x1' : E 36 a = E 242 a := by have := x1; rw [show 3 * (0 : Int) + a = a by omega] at this; exact this
    refine ⟨by rw [fs_st_o (by decide), hM 242 a (by decide) (by decide), x1'], x2, x3, fun k k0 k1 => ?_⟩
    have := (x4 k k0 k1).1
    rw [show 27 * (0 : Int) + 9 * a + k = 9 * a + k by omega] at this
    exact this
  unfold fs_noDrop at h0 h1
  refine E_Mo_drop (E_Mo_isDark ⟨fun z => ⟨0, rfl, fun _ => h0 (by omega), fun w => absurd rfl w⟩, fun z => ⟨fun z2 => ⟨0, rfl, fun _ => h0 (by omega), fun w => absurd rfl w⟩, fun z2 => ⟨1, rfl, fun w => absurd w (by decide), fun _ => ⟨by omega, by omega, fun z5 => ?_, fun z5 => ?_⟩⟩⟩⟩)
  · obtain ⟨y, x2, x3, x4⟩ := main z (by omega)
    rw [y] at z5
    have e38 : fs_st M 226 0 0 226 38 = M 226 38 := fs_st_k (by decide)
    refine sp_keepNow e38 (by omega) (by omega) (fun M1 o1 e1 c1 cj => ⟨rfl, ?_⟩)
    have e242 : M1 242 a = E 36 a := by rw [o1 242 a (by unfold fs_FK; omega), y]
    have e241 : M1 241 (9 * a + (E 36 a - 1)) = E (33 + a) (E 36 a - 1) := by
      rw [o1 241 _ (by unfold fs_FK; omega), fs_st_o (by decide), hM 241 _ (by decide) (by decide), x4 _ (by omega) (by omega)]
    rw [e242, show fs_w32 (E 36 a - 1) = E 36 a - 1 from fs_w32_of (by omega) (by omega), show fs_w32 (9 * a) = 9 * a from fs_w32_of (by omega) (by omega), show fs_w32 (9 * a + (E 36 a - 1)) = 9 * a + (E 36 a - 1) from fs_w32_of (by omega) (by omega), e241]
    refine ⟨by omega, by omega, ?_⟩
    have cc : ∀ c, 2 ≤ c → fs_mcp (fs_st M1 242 a (E 36 a - 1)) c M1 c := fun c hc => ⟨by rw [fs_st_o (by decide)], by rw [fs_st_o (by decide)], fun d d0 d1 => by rw [fs_st_k (by omega)], fun k k0 k1 => by rw [fs_st_o (by decide)]⟩
    have bL : 0 ≤ fs_pL (M 226 38) := by
      unfold fs_pL
      split <;> omega
    have oo : fs_out (fun o k => fs_FK o k ∨ (o = 226 ∧ k = 0) ∨ (o = 242 ∧ k = a)) M (fs_st M1 242 a (E 36 a - 1)) := by
      refine fs_out.st (fs_out.tr (fs_out.st fs_out.rf ?_) (o1.wk (fun _ _ q => Or.inl q))) ?_
      · exact Or.inr (Or.inl ⟨rfl, rfl⟩)
      · exact Or.inr (Or.inr ⟨rfl, rfl⟩)
    refine h1 (by omega) _ ⟨oo.wk (fun o k q => ?_), by rw [fs_st_o (by decide)]; exact e1, (cc _ (by omega)).tr (c1.tr (fs_mcp_st rfl)), fun j j0 j1 => (cc _ (by omega)).tr ((cj j j0 j1).tr (fs_mcp_st rfl))⟩ oo ?_
    · have q2 : fs_FK o k ∨ (o = 226 ∧ k = 0) ∨ (o = 242 ∧ k = a) := q
      unfold fs_FK at q2
      unfold fs_FcM
      omega
    · rw [fs_st_s]
  · obtain ⟨y, x2, x3, x4⟩ := main z (by omega)
    exact h0 (by omega)
/-- a bit turned in the plan, class and model alike: glass (refused) and out -/
theorem oc_turn {M : fs_M} {K : fs_K} {f v : Int} (hf : f = 2 ∨ f = 3) (hp : fs_pr M)
    (h1 : ∀ M', fs_pcC M M' → fs_out (fun o k => fs_FPa o k ∨ (o = 31 ∧ k = f) ∨ (o = 60 ∧ k = 5)) M M' → M' 31 f = fs_xor (M 31 f) v → M' 60 5 = 0 → K (some (fs_i 1)) M') : fs_C2 g m_Past_remember 2 [fs_r 95, fs_r 31] M (fun w M3 => w = none ∧ K (some (fs_i 1)) (fs_st (fs_st M3 31 f (fs_xor (M3 31 f) v)) 60 5 0)) := by
  obtain ⟨p1, p2, p3, p4, p5, p6, p7⟩ := hp
  refine sp_remember p1 p2 p3 p4 (fun M1 o1 e1 e2 c1 cj => ⟨rfl, ?_⟩)
  rw [o1 31 f (by unfold fs_FPa; omega)]
  have r1 : ∀ o k, o ≠ 31 → o ≠ 60 → fs_st (fs_st M1 31 f (fs_xor (M 31 f) v)) 60 5 0 o k = M1 o k := fun o k q w => by rw [fs_st_o w, fs_st_o q]
  have pp : ∀ o j, fs_pcp (fs_st (fs_st M1 31 f (fs_xor (M 31 f) v)) 60 5 0) (fs_slot o j) M1 (fs_slot o j) := fun o j => fs_pcp_rf (fun x k q w => r1 x k (by have := fs_slot_b o j; omega) (by have := fs_slot_b o j; omega))
  refine h1 _ ⟨?_, by rw [r1 _ _ (by decide) (by decide)]; exact e1, by rw [r1 _ _ (by decide) (by decide)]; exact e2, (pp _ _).tr c1, fun j j0 j1 => (pp _ _).tr (cj j j0 j1)⟩ ?_ ?_ ?_
  · refine fs_out.st (fs_out.st (o1.wk (fun _ _ q => Or.inl q)) ?_) ?_
    · exact Or.inr (Or.inl (by unfold fs_now3; omega))
    · exact Or.inr (Or.inr ⟨rfl, rfl⟩)
  · refine fs_out.st (fs_out.st (o1.wk (fun _ _ q => Or.inl q)) ?_) ?_
    · exact Or.inr (Or.inl ⟨rfl, rfl⟩)
    · exact Or.inr (Or.inr ⟨rfl, rfl⟩)
  · rw [fs_st_o (by decide), fs_st_s]
  · rw [fs_st_s]
theorem om_turn {M : fs_M} {K : fs_K} {f v : Int} (hf : f = 243 ∨ f = 244) (h2 : 0 ≤ M 226 38) (h3 : M 226 38 ≤ 20)
    (h1 : ∀ M', fs_pcM M M' → fs_out (fun o k => fs_FK o k ∨ (o = f ∧ k = 0)) M M' → M' f 0 = fs_xor (M f 0) v → K (some (fs_i 1)) M') : fs_C2 g m_Mo_keepNow 2 [fs_r 226] M (fun w M3 => w = none ∧ K (some (fs_i 1)) (fs_st M3 f 0 (fs_xor (M3 f 0) v))) := by
  refine sp_keepNow rfl h2 h3 (fun M1 o1 e1 c1 cj => ⟨rfl, ?_⟩)
  rw [o1 f 0 (by unfold fs_FK; omega)]
  have cc : ∀ c, 2 ≤ c → fs_mcp (fs_st M1 f 0 (fs_xor (M f 0) v)) c M1 c := fun c hc => ⟨by rw [fs_st_k (by omega)], by rw [fs_st_k (by omega)], fun d d0 d1 => by rw [fs_st_o (by omega)], fun k k0 k1 => by rw [fs_st_o (by omega)]⟩
  have bL : 0 ≤ fs_pL (M 226 38) := by
    unfold fs_pL
    split <;> omega
  have oo : fs_out (fun o k => fs_FK o k ∨ (o = f ∧ k = 0)) M (fs_st M1 f 0 (fs_xor (M f 0) v)) := by
    refine fs_out.st (o1.wk (fun _ _ q => Or.inl q)) ?_
    exact Or.inr ⟨rfl, rfl⟩
  refine h1 _ ⟨oo.wk (fun o k q => ?_), by rw [fs_st_o (by omega)]; exact e1, (cc _ (by omega)).tr c1, fun j j0 j1 => (cc _ (by omega)).tr (cj j j0 j1)⟩ oo ?_
  · have q2 : fs_FK o k ∨ (o = f ∧ k = 0) := q
    unfold fs_FK at q2
    unfold fs_FcM
    omega
  · rw [fs_st_s]
end OPS4
