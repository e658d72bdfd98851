-- ===== send, drop, glass, out: the past again the same for both =====
def fs_now3 (o : Int) : Prop := 31 ≤ o ∧ o ≤ 36
def fs_FcC (o k : Int) : Prop := fs_FPa o k ∨ fs_now3 o ∨ (o = 60 ∧ k = 5)
def fs_pcC (M M1 : fs_M) : Prop := fs_out fs_FcC M M1 ∧ M1 95 1 = fs_pO (M 95 1) (M 95 2) ∧ M1 95 2 = fs_pL (M 95 2) + 1 ∧ fs_pcp M1 (fs_slot (fs_pO (M 95 1) (M 95 2)) (fs_pL (M 95 2))) M 31 ∧ ∀ j, 0 ≤ j → j < fs_pL (M 95 2) → fs_pcp M1 (fs_slot (fs_pO (M 95 1) (M 95 2)) j) M (fs_slot (fs_pO (M 95 1) (M 95 2)) j)
def fs_FcM (o k : Int) : Prop := (241 ≤ o ∧ o ≤ 244) ∨ (o = 226 ∧ (k = 38 ∨ k = 0))
def fs_pcM (M M2 : fs_M) : Prop := fs_out fs_FcM M M2 ∧ M2 226 38 = fs_pL (M 226 38) + 1 ∧ fs_mcp M2 (2 + fs_pL (M 226 38)) M 0 ∧ ∀ j, 0 ≤ j → j < fs_pL (M 226 38) → fs_mcp M2 (2 + j) M (2 + (j + fs_pS (M 226 38)))
theorem fs_pcp.tr {A B C : fs_M} {a b c : Int} (h : fs_pcp A a B b) (h2 : fs_pcp B b C c) : fs_pcp A a C c := by
  obtain ⟨x1, x2, x3⟩ := h
  obtain ⟨y1, y2, y3⟩ := h2
  exact ⟨x1.trans y1, x2.trans y2, fun d d0 d1 => ⟨(x3 d d0 d1).1.trans (y3 d d0 d1).1, fun k k0 k1 => ((x3 d d0 d1).2 k k0 k1).trans ((y3 d d0 d1).2 k k0 k1)⟩⟩
theorem fs_mcp_o {M M1 : fs_M} {b : Int} (h : ∀ o k, 241 ≤ o → o ≤ 244 → M1 o k = M o k) : fs_mcp M1 b M b := ⟨h _ _ (by decide) (by decide), h _ _ (by decide) (by decide), fun _ _ _ => h _ _ (by decide) (by decide), fun _ _ _ => h _ _ (by decide) (by decide)⟩
theorem fs_pr.next {M M1 M2 : fs_M} (hB : M 1 9 ≤ 3) (h : fs_pr M) (hc : fs_pcC M M1) (hm : fs_pcM M1 M2) (hn : fs_rp M2 31 0) : fs_pr M2 := by
  obtain ⟨p1, p2, p3, p4, p5, p6, p7⟩ := h
  obtain ⟨c1, c2, c3, c4, c5⟩ := hc
  obtain ⟨m1, m2, m3, m4⟩ := hm
  have e38 : M1 226 38 = M 95 2 := by rw [c1 226 38 (by unfold fs_FcC fs_FPa fs_now3; omega), p5]
  rw [e38] at m2 m3 m4
  have cls : ∀ o k, o ≤ 225 → M2 o k = M1 o k := fun o k a => m1 o k (by unfold fs_FcM; omega)
  have mdl : ∀ o k, 226 ≤ o → M1 o k = M o k := fun o k a => c1 o k (by unfold fs_FcC fs_FPa fs_now3; omega)
  have e9 : M2 1 9 = M 1 9 := by rw [cls 1 9 (by decide), c1 1 9 (by unfold fs_FcC fs_FPa fs_now3; omega)]
  have e5 : M2 1 5 = M 1 5 := by rw [cls 1 5 (by decide), c1 1 5 (by unfold fs_FcC fs_FPa fs_now3; omega)]
  have mm : ∀ b, fs_mcp M1 b M b := fun b => fs_mcp_o (fun o k a b => mdl o k (by omega))
  have pp : ∀ o j, fs_pcp M2 (fs_slot o j) M1 (fs_slot o j) := fun o j => fs_pcp_rf (fun x k a b => cls x k (by have := fs_slot_b o j; omega))
  have bL : 0 ≤ fs_pL (M 95 2) ∧ fs_pL (M 95 2) < 20 := by
    unfold fs_pL
    split <;> omega
  have bO : 0 ≤ fs_pO (M 95 1) (M 95 2) ∧ fs_pO (M 95 1) (M 95 2) < 20 := by
    unfold fs_pO
    split <;> omega
  have x1 : M2 95 1 = fs_pO (M 95 1) (M 95 2) := by rw [cls 95 1 (by decide), c2]
  have x2 : M2 95 2 = fs_pL (M 95 2) + 1 := by rw [cls 95 2 (by decide), c3]
  refine ⟨by omega, by omega, by omega, by omega, by omega, hn, fun j j0 j1 => ?_⟩
  rw [x1]
  by_cases c : j = fs_pL (M 95 2)
  · rw [c]
    exact p6.cp hB ((pp _ _).tr c4) (m3.tr (mm 0)) e9 e5
  · have jl : j < fs_pL (M 95 2) := by omega
    have js : j + fs_pS (M 95 2) < M 95 2 := by
      unfold fs_pL at jl
      unfold fs_pS
      split at jl <;> split <;> omega
    have js0 : 0 ≤ j + fs_pS (M 95 2) := by
      unfold fs_pS
      split <;> omega
    have es : fs_slot (fs_pO (M 95 1) (M 95 2)) j = fs_slot (M 95 1) (j + fs_pS (M 95 2)) := by
      unfold fs_slot fs_pO fs_pS
      split <;> omega
    have r := p7 (j + fs_pS (M 95 2)) js0 js
    rw [← es] at r
    exact r.cp hB ((pp _ _).tr (c5 j j0 jl)) ((m4 j j0 jl).tr (mm _)) e9 e5
def fs_vSend (E : fs_M) (a b : Int) : Int := if a < 0 ∨ E 1 9 ≤ a ∨ b < 0 ∨ E 1 5 ≤ b ∨ ¬ E 36 a < 9 then -1 else E 36 a + 1
section OPS3
variable {g : fs_G}
theorem oc_send {M : fs_M} {K : fs_K} {a b : Int} (hB : fs_bE M) (hp : fs_pr M) (h0 : fs_vSend M a b = -1 → K (some (fs_i (-1))) M)
    (h1 : fs_vSend M a b ≠ -1 → ∀ M', fs_pcC M M' → fs_out (fun o k => fs_FPa o k ∨ (o = 33 + a ∧ k = M 36 a) ∨ (o = 36 ∧ k = a)) M M' → M' (33 + a) (M 36 a) = b → M' 36 a = M 36 a + 1 → K (some (fs_i (fs_vSend M a b))) M') : fs_C2 g m_Fs_send 3 [fs_r 0, fs_i a, fs_i b] M K := by
  have h5 := hB.2.1
  have h3 := hB.2.2.2.1
  obtain ⟨p1, p2, p3, p4, p5, p6, p7⟩ := hp
  unfold fs_vSend at h0 h1
  refine E_Fs_send (E_Script_hasDark io_1 ⟨fun z => ⟨0, rfl, fun _ => ?_, fun w => absurd rfl w⟩, fun z => ⟨fun z2 => ⟨0, rfl, fun _ => ?_, fun w => absurd rfl w⟩, fun z2 => ⟨1, rfl, fun w => absurd w (by decide), fun _ => E_Script_hasHouse io_1 ⟨fun z3 => ⟨0, rfl, fun _ => ?_, fun w => absurd rfl w⟩, fun z3 => ⟨fun z4 => ⟨0, rfl, fun _ => ?_, fun w => absurd rfl w⟩, fun z4 => ⟨1, rfl, fun w => absurd w (by decide), fun _ => ⟨by omega, by omega, fun z5 => ?_, fun z5 => ?_⟩⟩⟩⟩⟩⟩⟩)
  · exact h0 (by rw [if_pos (by omega)])
  · exact h0 (by rw [if_pos (by omega)])
  · exact h0 (by rw [if_pos (by omega)])
  · exact h0 (by rw [if_pos (by omega)])
  · obtain ⟨x1, x2, x3, x4⟩ := p6.2.2 a (by omega) (by omega)
    have x2' : 0 ≤ M 36 a := x2
    rw [if_neg (by omega)] at h1
    refine sp_remember p1 p2 p3 p4 (fun M1 o1 e1 e2 c1 cj => ⟨rfl, ?_⟩)
    have e36 : M1 36 a = M 36 a := o1 36 a (by unfold fs_FPa; omega)
    rw [e36, fs_st_o (by omega), e36, fs_w32_of (by omega) (by omega)]
    refine ⟨by omega, by omega, ?_⟩
    have r1 : ∀ o k, (o < 33 ∨ 36 < o) → fs_st (fs_st M1 (33 + a) (M 36 a) b) 36 a (M 36 a + 1) o k = M1 o k := fun o k q => by rw [fs_st_o (by omega), fs_st_o (by omega)]
    have pp : ∀ o j, fs_pcp (fs_st (fs_st M1 (33 + a) (M 36 a) b) 36 a (M 36 a + 1)) (fs_slot o j) M1 (fs_slot o j) := fun o j => fs_pcp_rf (fun x k q w => r1 x k (by have := fs_slot_b o j; omega))
    refine h1 (by omega) _ ⟨?_, by rw [r1 _ _ (by decide)]; exact e1, by rw [r1 _ _ (by decide)]; exact e2, (pp _ _).tr c1, fun j j0 j1 => (pp _ _).tr (cj j j0 j1)⟩ ?_ ?_ ?_
    · refine fs_out.st (fs_out.st (o1.wk (fun _ _ q => Or.inl q)) ?_) ?_
      · exact Or.inr (Or.inl (by unfold fs_now3; omega))
      · exact Or.inr (Or.inl (by unfold fs_now3; omega))
    · refine fs_out.st (fs_out.st (o1.wk (fun _ _ q => Or.inl q)) ?_) ?_
      · exact Or.inr (Or.inl ⟨rfl, rfl⟩)
      · exact Or.inr (Or.inr ⟨rfl, rfl⟩)
    · rw [fs_st_o (by omega), fs_st_s]
    · rw [fs_st_s]
  · exact h0 (by rw [if_pos (by omega)])
theorem om_send {E M : fs_M} {K : fs_K} {a b : Int} (hB : fs_bE E) (hT : fs_rt E) (hp : fs_pr E) (hE : fs_env E M) (hM : ∀ o k, 241 ≤ o → o ≤ 244 → M o k = E o k) (h38 : M 226 38 = E 226 38) (h0 : fs_vSend E a b = -1 → K (some (fs_i (-1))) (fs_st M 226 0 0))
    (h1 : fs_vSend E a b ≠ -1 → ∀ M', fs_pcM M M' → fs_out (fun o k => fs_FK o k ∨ (o = 226 ∧ k = 0) ∨ (o = 241 ∧ k = 9 * a + E 36 a) ∨ (o = 242 ∧ k = a)) M M' → M' 241 (9 * a + E 36 a) = b → M' 242 a = E 36 a + 1 → K (some (fs_i (fs_vSend E a b))) M') : fs_C2 g m_Mo_send 3 [fs_r 226, fs_i a, fs_i b] M K := by
  have h5 := hB.2.1
  have h3 := hB.2.2.2.1
  obtain ⟨p1, p2, p3, p4, p5, p6, p7⟩ := hp
  have e228 : fs_st M 226 0 0 228 0 = E 1 5 := by rw [fs_st_o (by decide), hE 228 0 (by unfold fs_eC; omega), hT.1]
  have e2281 : fs_st M 226 0 0 228 1 = E 1 9 := by rw [fs_st_o (by decide), hE 228 1 (by unfold fs_eC; omega), hT.2.1]
  unfold fs_vSend at h0 h1
  refine E_Mo_send (E_Mo_isDark ⟨fun z => ⟨0, rfl, fun _ => ?_, fun w => absurd rfl w⟩, fun z => ⟨fun z2 => ⟨0, rfl, fun _ => ?_, fun w => absurd rfl w⟩, fun z2 => ⟨1, rfl, fun w => absurd w (by decide), fun _ => E_Mo_isHouse ⟨fun z3 => ⟨0, rfl, fun _ => ?_, fun w => absurd rfl w⟩, fun z3 => ⟨fun z4 => ⟨0, rfl, fun _ => ?_, fun w => absurd rfl w⟩, fun z4 => ⟨1, rfl, fun w => absurd w (by decide), fun _ => ⟨by omega, by omega, fun z5 => ?_, fun z5 => ?_⟩⟩⟩⟩⟩⟩⟩)
  · exact h0 (by rw [if_pos (by omega)])
  · exact h0 (by rw [if_pos (by omega)])
  · exact h0 (by rw [if_pos (by omega)])
  · exact h0 (by rw [if_pos (by omega)])
  · obtain ⟨x1, x2, x3, x4⟩ := p6.2.2 a (by omega) (by omega)
    have x1' : E 36 a = E 242 a := by have := x1; rw [show 3 * (0 : Int) + a = a by omega] at this; exact this
    have x2' : 0 ≤ E 36 a := x2
    have x3' : E 36 a ≤ 9 := x3
    have y0 : M 242 a = E 36 a := by rw [hM 242 a (by decide) (by decide), x1']
    have y : fs_st M 226 0 0 242 a = E 36 a := by rw [fs_st_o (by decide), y0]
    rw [y] at z5
    rw [if_neg (by omega)] at h1
    have e38 : fs_st M 226 0 0 226 38 = M 226 38 := fs_st_k (by decide)
    refine sp_keepNow e38 (by omega) (by omega) (fun M1 o1 e1 c1 cj => ⟨rfl, ?_⟩)
    have e242 : M1 242 a = E 36 a := by rw [o1 242 a (by unfold fs_FK; omega), y]
    rw [e242, show fs_w32 (9 * a) = 9 * a from fs_w32_of (by omega) (by omega), show fs_w32 (9 * a + E 36 a) = 9 * a + E 36 a from fs_w32_of (by omega) (by omega), show fs_w32 (E 36 a + 1) = E 36 a + 1 from fs_w32_of (by omega) (by omega)]
    refine ⟨by omega, by omega, ?_⟩
    have cc : ∀ c, 2 ≤ c → fs_mcp (fs_st (fs_st M1 241 (9 * a + E 36 a) b) 242 a (E 36 a + 1)) c M1 c := fun c hc => ⟨by rw [fs_st_o (by decide), fs_st_o (by decide)], by rw [fs_st_o (by decide), fs_st_o (by decide)], fun d d0 d1 => by rw [fs_st_k (by omega), fs_st_o (by decide)], fun k k0 k1 => by rw [fs_st_o (by decide), fs_st_k (by omega)]⟩
    have bL : 0 ≤ fs_pL (M 226 38) := by
      unfold fs_pL
      split <;> omega
    have oo : fs_out (fun o k => fs_FK o k ∨ (o = 226 ∧ k = 0) ∨ (o = 241 ∧ k = 9 * a + E 36 a) ∨ (o = 242 ∧ k = a)) M (fs_st (fs_st M1 241 (9 * a + E 36 a) b) 242 a (E 36 a + 1)) := by
      refine fs_out.st (fs_out.st (fs_out.tr (fs_out.st fs_out.rf ?_) (o1.wk (fun _ _ q => Or.inl q))) ?_) ?_
      · exact Or.inr (Or.inl ⟨rfl, rfl⟩)
      · exact Or.inr (Or.inr (Or.inl ⟨rfl, rfl⟩))
      · exact Or.inr (Or.inr (Or.inr ⟨rfl, rfl⟩))
    refine h1 (by omega) _ ⟨oo.wk (fun o k q => ?_), by rw [fs_st_o (by decide), fs_st_o (by decide)]; exact e1, (cc _ (by omega)).tr (c1.tr (fs_mcp_st rfl)), fun j j0 j1 => (cc _ (by omega)).tr ((cj j j0 j1).tr (fs_mcp_st rfl))⟩ oo ?_ ?_
    · have q2 : fs_FK o k ∨ (o = 226 ∧ k = 0) ∨ (o = 241 ∧ k = 9 * a + E 36 a) ∨ (o = 242 ∧ k = a) := q
      unfold fs_FK at q2
      unfold fs_FcM
      omega
    · rw [fs_st_o (by decide), fs_st_s]
    · rw [fs_st_s]
  · obtain ⟨x1, x2, x3, x4⟩ := p6.2.2 a (by omega) (by omega)
    have x1' : E 36 a = E 242 a := by have := x1; rw [show 3 * (0 : Int) + a = a by omega] at this; exact this
    rw [fs_st_o (by decide), hM 242 a (by decide) (by decide), ← x1'] at z5
    exact h0 (by rw [if_pos (by omega)])
end OPS3
