-- ===== as planned: the two runs are one =====
def fs_eC2 (o : Int) : Prop := fs_eC o ∨ (31 ≤ o ∧ o ≤ 36) ∨ (241 ≤ o ∧ o ≤ 244)
def fs_env2 (E M : fs_M) : Prop := ∀ o k, fs_eC2 o → M o k = E o k
theorem fs_env2.env {E M : fs_M} (h : fs_env2 E M) : fs_env E M := fun o k q => h o k (Or.inl q)
/-- the plan's and the model's rows b are the same -/
def fs_rp (M : fs_M) (pl b : Int) : Prop := M pl 2 = M 243 b ∧ M pl 3 = M 244 b ∧ ∀ d, 0 ≤ d → d < M 1 9 → M (pl + 5) d = M 242 (3 * b + d) ∧ 0 ≤ M (pl + 5) d ∧ M (pl + 5) d ≤ 9 ∧ ∀ k, 0 ≤ k → k < M (pl + 5) d → M (pl + 2 + d) k = M 241 (27 * b + 9 * d + k) ∧ 0 ≤ M (pl + 2 + d) k ∧ M (pl + 2 + d) k < M 1 5
theorem fs_rp.bP {M : fs_M} {pl b : Int} (h : fs_rp M pl b) : fs_bP M M pl := fun d d0 d1 => by
  obtain ⟨a1, a2, a3, a4⟩ := h.2.2 d d0 d1
  exact ⟨a2, a3, fun k k0 k1 => (a4 k k0 k1).2⟩
def fs_F8 (o k : Int) : Prop := o = 251 ∨ o = 252 ∨ (o = 226 ∧ (k = 42 ∨ k = 43 ∨ k = 44 ∨ k = 47))
def fs_F9 (o k : Int) : Prop := fs_F6 o k ∨ fs_F8 o k
def fs_X0 (E : fs_M) : (Int → List Int) × fs_M := (fs_rows E E 31, fs_S0 E (-1) (fs_alone E (-1) (E 31 3)) (fs_rows E E 31))
def fs_Xm (E : fs_M) (m : Int) : (Int → List Int) × fs_M := fs_go E (-1) (E 31 2) m 27 (fs_X0 E)
theorem fs_pl31 : fs_pl 31 := ⟨io_31, Or.inl (Or.inl rfl)⟩
theorem fs_eC2_F5 {E M M' : fs_M} (h : fs_env2 E M) (ho : fs_out fs_F5 M M') : fs_env2 E M' := fun o k q => by
  rw [ho o k (by unfold fs_F5 fs_F2; unfold fs_eC2 fs_eC at q; omega)]
  exact h o k q
theorem fs_eC2_F9 {E M M' : fs_M} (h : fs_env2 E M) (ho : fs_out fs_F9 M M') : fs_env2 E M' := fun o k q => by
  rw [ho o k (by unfold fs_F9 fs_F6 fs_F8 fs_F4; unfold fs_eC2 fs_eC at q; omega)]
  exact h o k q
section NOW
variable {g : fs_G}
theorem sp_asIs {M : fs_M} {K : fs_K} (hK : ∀ M', fs_out fs_F8 M M' → M' 226 42 = -1 → M' 226 43 = -1 → M' 226 44 = -1 → M' 226 47 = M 243 0 → (∀ d, 0 ≤ d → d < 3 → M' 252 d = M 242 d ∧ ∀ k, 0 ≤ k → k < 9 → M' 251 (9 * d + k) = M 241 (9 * d + k)) → K none M') : fs_C2 g m_Mo_asIs 2 [fs_r 226] M K := by
  refine E_Mo_asIs (E_Mo_plain ⟨rfl, ?_⟩)
  have rows : ∀ (n : Nat) (i : Int) (M1 : fs_M), 0 ≤ i → i ≤ 3 → 3 - i = n → fs_out fs_F8 M M1 → M1 226 42 = -1 → M1 226 43 = -1 → M1 226 44 = -1 → M1 226 47 = M 243 0 → (∀ d, 0 ≤ d → d < i → M1 252 d = M 242 d ∧ ∀ k, 0 ≤ k → k < 9 → M1 251 (9 * d + k) = M 241 (9 * d + k)) → fs_A2 g m_Mo_asIs 2 16 [(0, fs_r 226), (1, fs_i i)] [] M1 K := by
    intro n
    induction n with
    | zero =>
      intro i M1 i0 i1 hn o1 a b c e hd
      exact L_Mo_asIs_16 ⟨fun _ => hK M1 o1 a b c e (fun d d0 d1 => hd d d0 (by omega)), fun z => absurd z (by omega)⟩
    | succ n ih =>
      intro i M1 i0 i1 hn o1 a b c e hd
      refine L_Mo_asIs_16 ⟨fun z => absurd z (by omega), fun _ => ⟨i0, ?_⟩⟩
      have row : ∀ (n : Nat) (j : Int) (M2 : fs_M), 0 ≤ j → j ≤ 9 → 9 - j = n → fs_out fs_F8 M M2 → M2 226 42 = -1 → M2 226 43 = -1 → M2 226 44 = -1 → M2 226 47 = M 243 0 → (∀ d, 0 ≤ d → d < i → M2 252 d = M 242 d ∧ ∀ k, 0 ≤ k → k < 9 → M2 251 (9 * d + k) = M 241 (9 * d + k)) → M2 252 i = M 242 i → (∀ k, 0 ≤ k → k < j → M2 251 (9 * i + k) = M 241 (9 * i + k)) → fs_A2 g m_Mo_asIs 2 35 [(0, fs_r 226), (1, fs_i i), (2, fs_i j)] [] M2 K := by
        intro n2
        induction n2 with
        | zero =>
          intro j M2 j0 j1 hn2 o2 a b c e hd hl hj
          refine L_Mo_asIs_35 ⟨fun _ => ?_, fun z => absurd z (by omega)⟩
          rw [fs_w32_of (by omega) (by omega)]
          refine ih (i + 1) M2 (by omega) (by omega) (by omega) o2 a b c e (fun d d0 d1 => ?_)
          by_cases q : d = i
          · rw [q]
            exact ⟨hl, fun k k0 k1 => hj k k0 (by omega)⟩
          · exact hd d d0 (by omega)
        | succ n2 ih2 =>
          intro j M2 j0 j1 hn2 o2 a b c e hd hl hj
          refine L_Mo_asIs_35 ⟨fun z => absurd z (by omega), fun _ => ?_⟩
          rw [show fs_w32 (9 * i) = 9 * i from fs_w32_of (by omega) (by omega), show fs_w32 (9 * i + j) = 9 * i + j from fs_w32_of (by omega) (by omega), show fs_w32 (j + 1) = j + 1 from fs_w32_of (by omega) (by omega)]
          refine ⟨by omega, by omega, by omega, ?_⟩
          have e241 : ∀ k, M2 241 k = M 241 k := fun k => o2 241 k (by unfold fs_F8; omega)
          rw [e241]
          refine ih2 (j + 1) _ (by omega) (by omega) (by omega) (o2.st (by unfold fs_F8; omega)) (by rw [fs_st_o (by decide)]; exact a) (by rw [fs_st_o (by decide)]; exact b) (by rw [fs_st_o (by decide)]; exact c) (by rw [fs_st_o (by decide)]; exact e) (fun d d0 d1 => ?_) (by rw [fs_st_o (by decide)]; exact hl) (fun k k0 k1 => ?_)
          · obtain ⟨x1, x2⟩ := hd d d0 d1
            rw [fs_st_o (by decide)]
            refine ⟨x1, fun k k0 k1 => ?_⟩
            rw [fs_st_k (by omega)]
            exact x2 k k0 k1
          · by_cases q : k = j
            · rw [q, fs_st_s]
            · rw [fs_st_k (by omega)]
              exact hj k k0 (by omega)
      have e242 : M1 242 i = M 242 i := o1 242 i (by unfold fs_F8; omega)
      rw [e242]
      refine row 9 0 _ (by decide) (by decide) (by decide) (o1.st (by unfold fs_F8; omega)) (by rw [fs_st_o (by decide)]; exact a) (by rw [fs_st_o (by decide)]; exact b) (by rw [fs_st_o (by decide)]; exact c) (by rw [fs_st_o (by decide)]; exact e) (fun d d0 d1 => ?_) (by rw [fs_st_s]) (fun k k0 k1 => by omega)
      obtain ⟨x1, x2⟩ := hd d d0 d1
      rw [fs_st_k (by omega)]
      refine ⟨x1, fun k k0 k1 => ?_⟩
      rw [fs_st_o (by decide)]
      exact x2 k k0 k1
  refine rows 3 0 _ (by decide) (by decide) (by decide) ((((fs_out.rf.st ?_).st ?_).st ?_).st ?_) ?_ ?_ ?_ ?_ (fun d d0 d1 => by omega)
  · unfold fs_F8; omega
  · unfold fs_F8; omega
  · unfold fs_F8; omega
  · unfold fs_F8; omega
  · simp [fs_st]
  · simp [fs_st]
  · simp [fs_st]
  · simp [fs_st]
/-- rows that stand in the model's run as the plan has them -/
theorem fs_rows_now {E M : fs_M} (hp : fs_rp E 31 0) (h : ∀ d, 0 ≤ d → d < 3 → M 252 d = E 242 d ∧ ∀ k, 0 ≤ k → k < 9 → M 251 (9 * d + k) = E 241 (9 * d + k)) (hD : E 1 9 ≤ 3) : fs_rw E M ∧ fs_mrows E M (-1) (-1) (-1) = fs_rows E E 31 := by
  have hg : ∀ h, 0 ≤ h → fs_gn (-1) (-1) (-1) h = false := fun h h0 => by
    unfold fs_gn
    exact decide_eq_false (by omega)
  refine ⟨fun d d0 d1 => ?_, ?_⟩
  · obtain ⟨a1, a2, a3, a4⟩ := hp.2.2 d d0 d1
    obtain ⟨b1, b2⟩ := h d d0 (by omega)
    have ea : E (31 + 5) d = E 242 d := by rw [a1, show 3 * (0 : Int) + d = d by omega]
    rw [b1, ← ea]
    refine ⟨a2, a3, fun k k0 k1 => ?_⟩
    obtain ⟨c1, c2, c3⟩ := a4 k k0 k1
    rw [b2 k k0 (by omega), show 9 * d + k = 27 * 0 + 9 * d + k by omega, ← c1]
    exact ⟨c2, c3⟩
  · funext d
    unfold fs_mrows fs_rows
    by_cases c : 0 ≤ d ∧ d < E 1 9
    · rw [if_pos ⟨c.1, c.2, by omega⟩, if_pos c]
      obtain ⟨a1, a2, a3, a4⟩ := hp.2.2 d c.1 c.2
      obtain ⟨b1, b2⟩ := h d c.1 (by omega)
      have ea : E (31 + 5) d = E 242 d := by rw [a1, show 3 * (0 : Int) + d = d by omega]
      have e : fs_left M d 0 = fs_lst (E (31 + 2 + d)) (E (31 + 5) d).toNat 0 := by
        unfold fs_left
        rw [b1, ← ea, Int.sub_zero]
        have sh : ∀ (n : Nat) (i : Int), 0 ≤ i → i + n ≤ E (31 + 5) d → fs_lst (M 251) n (9 * d + i) = fs_lst (E (31 + 2 + d)) n i := by
          intro n
          induction n with
          | zero => intro i _ _; rfl
          | succ n ih =>
            intro i i0 i1
            show M 251 (9 * d + i) :: fs_lst (M 251) n (9 * d + i + 1) = E (31 + 2 + d) i :: fs_lst (E (31 + 2 + d)) n (i + 1)
            rw [Int.add_assoc, ih (i + 1) (by omega) (by omega), b2 i i0 (by omega), show 9 * d + i = 27 * 0 + 9 * d + i by omega, ← (a4 i i0 (by omega)).1]
        exact sh _ 0 (by decide) (by omega)
      rw [e]
      unfold fs_kp
      rw [List.filter_eq_self.2]
      intro x hx
      obtain ⟨k, k0, k1, ek⟩ := fs_lst_mem hx
      have := a4 k k0 (by omega)
      rw [hg x (by omega)]
      rfl
    · rw [if_neg (by omega), if_neg c]
theorem fs_now_mal {E : fs_M} (out : Int) : fs_S0 E (-1) (fs_mal E (-1) (-1) (-1) out) (fs_rows E E 31) = fs_S0 E (-1) (fs_alone E (-1) out) (fs_rows E E 31) := by
  refine fs_S0_al (fun i i0 i1 => ?_)
  unfold fs_mal
  rw [if_neg]
  unfold fs_gn
  rw [decide_eq_false (by omega)]
  decide
theorem sp_runNow {E M : fs_M} {K : fs_K} {m : Int} (hB : fs_bE E) (hT : fs_rt E) (hp : fs_rp E 31 0) (hE : fs_env2 E M) (hm : m ≤ 240)
    (hK : ∀ M', fs_out fs_F9 M M' → M' 226 47 = E 31 2 → fs_rI E (fs_Xm E m) → fs_mR E M' (-1) (-1) (-1) (fs_Xm E m) → K none M') : fs_C2 g m_Mo_asIs 2 [fs_r 226] M (fun v M1 => v = none ∧ fs_C2 g m_Mo_walks 8 [fs_r 226, fs_i m] M1 K) := by
  refine sp_asIs (fun M1 o1 h42 h43 h44 h47 hr => ⟨rfl, ?_⟩)
  have o1' : fs_out fs_F9 M M1 := o1.wk (fun _ _ q => Or.inr q)
  have E1 := fs_eC2_F9 hE o1'
  have e47 : M1 226 47 = E 31 2 := by rw [h47, hE 243 0 (Or.inr (Or.inr (by decide))), hp.1]
  have hr' : ∀ d, 0 ≤ d → d < 3 → M1 252 d = E 242 d ∧ ∀ k, 0 ≤ k → k < 9 → M1 251 (9 * d + k) = E 241 (9 * d + k) := fun d d0 d1 => by
    obtain ⟨x1, x2⟩ := hr d d0 d1
    rw [x1, hE 242 d (Or.inr (Or.inr (by decide)))]
    refine ⟨rfl, fun k k0 k1 => ?_⟩
    rw [x2 k k0 k1, hE 241 _ (Or.inr (Or.inr (by decide)))]
  obtain ⟨w1, w2⟩ := fs_rows_now hp hr' hB.2.2.2.1
  refine sp_walks hB hT E1.env w1 h42 h43 h44 e47 hm (fun M2 o2 i2 r2 => ?_)
  have e244 : M1 244 0 = E 31 3 := by rw [E1 244 0 (Or.inr (Or.inr (by decide))), hp.2.1]
  rw [w2, e244, fs_now_mal] at i2 r2
  exact hK M2 (o1'.tr (o2.wk (fun _ _ q => Or.inl q))) (by rw [o2 226 47 (by unfold fs_F6 fs_F4; omega)]; exact e47) i2 r2
theorem sp_courseNow {M : fs_M} {K : fs_K} (hB : fs_bE M) (hp : fs_rp M 31 0) (hK : ∀ M', fs_out fs_F5 M M' → fs_cR M M' 31 (-1) (fs_Xm M 240) → K none M') : fs_C2 g m_Course_run 7 [fs_r 43, fs_r 31, fs_i (-1)] M K :=
  sp_run (E := M) hB fs_pl31 (fun _ _ _ => rfl) hp.bP (fun M' o r => hK M' o r)
end NOW
