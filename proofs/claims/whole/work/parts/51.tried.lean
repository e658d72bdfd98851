-- ===== tried otherwise =====
theorem fs_lst_snoc (f : Int → Int) : ∀ (n : Nat) (i : Int), fs_lst f (n + 1) i = fs_lst f n i ++ [f (i + n)]
  | 0, i => by
    show [f i] = [f (i + 0)]
    rw [Int.add_zero]
  | n + 1, i => by
    show f i :: fs_lst f (n + 1) (i + 1) = f i :: (fs_lst f n (i + 1) ++ [f (i + ((n + 1 : Nat) : Int))])
    rw [fs_lst_snoc f n (i + 1), show i + 1 + (n : Int) = i + ((n + 1 : Nat) : Int) by omega]
theorem fs_lst_in (f : Int → Int) : ∀ (n : Nat) (i k : Int), i ≤ k → k < i + n → f k ∈ fs_lst f n i
  | 0, i, k, a, b => by omega
  | n + 1, i, k, a, b => by
    show f k ∈ f i :: fs_lst f n (i + 1)
    by_cases c : k = i
    · rw [c]
      exact List.mem_cons_self
    · exact List.mem_cons_of_mem _ (fs_lst_in f n (i + 1) k (by omega) (by omega))
/-- rows as they are tried -/
def fs_trR (E : fs_M) (a b : Int) (d : Int) : List Int := if a = 4 ∧ b = d then [] else fs_kp a b (-1) (fs_rows E E 31 d)
def fs_trOk (E : fs_M) (a b : Int) : Prop := if a = 3 then 0 ≤ b ∧ b < E 1 5 else if a = 4 then 0 ≤ b ∧ b < E 1 9 else 0 ≤ a ∧ a ≤ 5 ∧ b = 0
def fs_trG (E : fs_M) (a b : Int) : Int := fs_rG E a (if a = 0 then 63 else E 31 2) (if a = 0 then 0 else E 31 2) (fs_mal E a b (-1) (E 31 3)) (fs_trR E a b)
theorem fs_gn_f {a b h : Int} (h0 : 0 ≤ h) (ha : a ≠ 3) : fs_gn a b (-1) h = false := by
  unfold fs_gn
  exact decide_eq_false (by omega)
theorem fs_gn_3 {b h : Int} (h0 : 0 ≤ h) : fs_gn 3 b (-1) h = decide (b = h) := by
  unfold fs_gn
  by_cases c : b = h
  · rw [decide_eq_true (Or.inl ⟨rfl, c⟩), decide_eq_true c]
  · rw [decide_eq_false (by omega), decide_eq_false c]
theorem fs_kp_id {a b : Int} {l : List Int} (hl : ∀ h, h ∈ l → 0 ≤ h) (ha : a ≠ 3) : fs_kp a b (-1) l = l := by
  unfold fs_kp
  rw [List.filter_eq_self.2]
  intro x hx
  rw [fs_gn_f (hl x hx) ha]
  rfl
theorem fs_trR_b {E : fs_M} {a b : Int} (hp : fs_rp E 31 0) : fs_bR E (fs_trR E a b) := by
  obtain ⟨r1, r2⟩ := hp.bP.rows
  refine ⟨fun d d0 d1 => ?_, fun d d0 d1 d2 => ?_⟩
  · obtain ⟨x, y⟩ := r1 d d0 d1
    unfold fs_trR
    split
    · exact ⟨Nat.zero_le _, fun h hh => absurd hh (by intro z; cases z)⟩
    · unfold fs_kp
      refine ⟨?_, fun h hh => y h (List.mem_filter.1 hh).1⟩
      have := List.length_filter_le (fun h => !fs_gn a b (-1) h) (fs_rows E E 31 d)
      omega
  · have x := r2 d d0 d1 d2
    unfold fs_trR
    split
    · rfl
    · rw [x]
      rfl
section TRIED
variable {g : fs_G}
theorem sp_removeHouse {M : fs_M} {K : fs_K} {p x : Int} (hp : fs_isO 6 p) (hb : ∀ d, 0 ≤ d → d < 3 → 0 ≤ M (p + 5) d ∧ M (p + 5) d ≤ 9 ∧ ∀ k, 0 ≤ k → k < M (p + 5) d → 0 ≤ M (p + 2 + d) k)
    (hK : ∀ M', fs_out (fs_plc p) M M' → M' p 2 = M p 2 → M' p 3 = fs_and (M p 3) (fs_xor (fs_shl 1 x) (-1)) → (∀ d, 0 ≤ d → d < 3 → 0 ≤ M' (p + 5) d ∧ M' (p + 5) d ≤ M (p + 5) d ∧ fs_lst (M' (p + 2 + d)) (M' (p + 5) d).toNat 0 = fs_kp 3 x (-1) (fs_lst (M (p + 2 + d)) (M (p + 5) d).toNat 0)) → K none M') : fs_C2 g m_Plan_removeHouse 1 [fs_r p, fs_i x] M K := by
  refine E_Plan_removeHouse hp ?_
  have outer : ∀ (n : Nat) (d : Int) (M1 : fs_M), 3 - d = n → 0 ≤ d → d ≤ 3 → fs_out (fun o k => fs_plc p o k ∧ o ≠ p) M M1 → (∀ e, d ≤ e → e < 3 → M1 (p + 5) e = M (p + 5) e ∧ ∀ k, M1 (p + 2 + e) k = M (p + 2 + e) k) → (∀ e, 0 ≤ e → e < d → 0 ≤ M1 (p + 5) e ∧ M1 (p + 5) e ≤ M (p + 5) e ∧ fs_lst (M1 (p + 2 + e)) (M1 (p + 5) e).toNat 0 = fs_kp 3 x (-1) (fs_lst (M (p + 2 + e)) (M (p + 5) e).toNat 0)) → fs_A2 g m_Plan_removeHouse 1 2 [(0, fs_r p), (1, fs_i x), (2, fs_i d)] [] M1 K := by
    intro n
    induction n with
    | zero =>
      intro d M1 hn d0 d1 o1 hk hd
      refine L_Plan_removeHouse_2 hp ⟨fun _ => ?_, fun z => absurd z (by omega)⟩
      have m1p : ∀ k, M1 p k = M p k := fun k => o1 p k (fun z => z.2 rfl)
      refine hK _ (fs_out.st (o1.wk (fun _ _ q => q.1)) (Or.inl ⟨rfl, Or.inr rfl⟩)) (by rw [fs_st_k (by decide), m1p]) (by rw [fs_st_s, m1p]) (fun e e0 e1 => ?_)
      have w : ∀ o k, p + 2 ≤ o → fs_st M1 p 3 (fs_and (M1 p 3) (fs_xor (fs_shl 1 x) (-1))) o k = M1 o k := fun o k q => fs_st_o (by omega)
      have h := hd e e0 (by omega)
      rw [w (p + 5) e (by omega), fs_lst_cong (f2 := M1 (p + 2 + e)) (fun k _ _ => w (p + 2 + e) k (by omega))]
      exact h
    | succ n ih =>
      intro d M1 hn d0 d1 o1 hk hd
      refine L_Plan_removeHouse_2 hp ⟨fun z => absurd z (by omega), fun _ => ?_⟩
      obtain ⟨b0, b1, b2⟩ := hb d d0 (by omega)
      have inner : ∀ (n2 : Nat) (i j : Nat) (M2 : fs_M), M (p + 5) d - i = n2 → (i : Int) ≤ M (p + 5) d → j ≤ i → fs_out (fun o k => fs_plc p o k ∧ o ≠ p) M M2 → (∀ e, 0 ≤ e → e < 3 → M2 (p + 5) e = M1 (p + 5) e) → (∀ e, 0 ≤ e → e < 3 → e ≠ d → ∀ k, M2 (p + 2 + e) k = M1 (p + 2 + e) k) → (∀ k, (i : Int) ≤ k → M2 (p + 2 + d) k = M (p + 2 + d) k) → fs_lst (M2 (p + 2 + d)) j 0 = fs_kp 3 x (-1) (fs_lst (M (p + 2 + d)) i 0) → fs_A2 g m_Plan_removeHouse 1 12 [(0, fs_r p), (1, fs_i x), (2, fs_i d), (3, fs_i (j : Int)), (4, fs_i (i : Int))] [] M2 K := by
        intro n2
        induction n2 with
        | zero =>
          intro i j M2 hn2 hi hj o2 he5 he hrest hl
          refine L_Plan_removeHouse_12 hp ⟨d0, by omega, fun _ => ?_, fun z => ?_⟩
          · rw [fs_w32_of (by omega) (by omega)]
            refine ih (d + 1) _ (by omega) (by omega) (by omega) (fs_out.st o2 ?_) (fun e e0 e1 => ?_) (fun e e0 e1 => ?_)
            · exact ⟨Or.inr (by omega), by omega⟩
            · rw [fs_st_k (by omega), he5 e (by omega) e1]
              refine ⟨(hk e (by omega) e1).1, fun k => ?_⟩
              rw [fs_st_o (by omega), he e (by omega) e1 (by omega)]
              exact (hk e (by omega) e1).2 k
            · by_cases c : e = d
              · rw [c, fs_st_s]
                refine ⟨by omega, by omega, ?_⟩
                rw [fs_lst_cong (f2 := M2 (p + 2 + d)) (fun k _ _ => fs_st_o (by omega)), show ((j : Nat) : Int).toNat = j from rfl, hl, show (M (p + 5) d).toNat = i by omega]
              · rw [fs_st_k c, he5 e e0 (by omega), fs_lst_cong (f2 := M1 (p + 2 + e)) (fun k _ _ => by rw [fs_st_o (by omega)]; exact he e e0 (by omega) c k)]
                exact hd e e0 (by omega)
          · rw [he5 d d0 (by omega), (hk d (by omega) (by omega)).1] at z
            omega
        | succ n2 ih2 =>
          intro i j M2 hn2 hi hj o2 he5 he hrest hl
          have ed : M2 (p + 5) d = M (p + 5) d := by rw [he5 d d0 (by omega), (hk d (by omega) (by omega)).1]
          have wi : fs_w32 ((i : Int) + 1) = ((i + 1 : Nat) : Int) := by
            rw [fs_w32_of (by omega) (by omega)]
            omega
          have wj : fs_w32 ((j : Int) + 1) = ((j + 1 : Nat) : Int) := by
            rw [fs_w32_of (by omega) (by omega)]
            omega
          have vi : M2 (p + 2 + d) i = M (p + 2 + d) i := hrest i (by omega)
          have v0 := b2 i (by omega) (by omega)
          have snoc : fs_lst (M (p + 2 + d)) (i + 1) 0 = fs_lst (M (p + 2 + d)) i 0 ++ [M (p + 2 + d) i] := by
            rw [fs_lst_snoc, Int.zero_add]
          refine L_Plan_removeHouse_12 hp ⟨d0, by omega, fun z => ?_, fun _ => ⟨by omega, by omega, fun eq => ?_, fun ne => ⟨by omega, by omega, ?_⟩⟩⟩
          · rw [ed] at z
            omega
          · rw [wi]
            rw [vi] at eq
            refine ih2 (i + 1) j M2 (by omega) (by omega) (by omega) o2 he5 he (fun k k0 => hrest k (by omega)) ?_
            rw [snoc, hl]
            unfold fs_kp
            rw [List.filter_append, List.filter_cons_of_neg (by rw [fs_gn_3 v0, decide_eq_true eq.symm]; decide), List.filter_nil, List.append_nil]
          · rw [wi, wj]
            rw [vi] at ne ⊢
            refine ih2 (i + 1) (j + 1) _ (by omega) (by omega) (by omega) (fs_out.st o2 ?_) (fun e e0 e1 => ?_) (fun e e0 e1 ne2 k => ?_) (fun k k0 => ?_) ?_
            · exact ⟨Or.inr (by omega), by omega⟩
            · rw [fs_st_o (by omega)]
              exact he5 e e0 e1
            · rw [fs_st_o (by omega)]
              exact he e e0 e1 ne2 k
            · rw [fs_st_k (by omega)]
              exact hrest k (by omega)
            · rw [snoc, fs_lst_snoc, Int.zero_add, fs_st_s, fs_lst_cong (f2 := M2 (p + 2 + d)) (fun k _ _ => fs_st_k (by omega)), hl]
              unfold fs_kp
              rw [List.filter_append, List.filter_cons_of_pos (by rw [fs_gn_3 v0, decide_eq_false (fun q => ne q.symm)]; rfl), List.filter_nil]
      exact inner (M (p + 5) d).toNat 0 0 M1 (by omega) b0 (Nat.le_refl _) o1 (fun _ _ _ => rfl) (fun _ _ _ _ _ => rfl) (fun k _ => (hk d (by omega) (by omega)).2 k) rfl
  exact outer 3 0 M rfl (by decide) (by decide) fs_out.rf (fun _ _ _ => ⟨rfl, fun _ => rfl⟩) (fun e e0 e1 => by omega)
/-- the class, behind the plan tried: what is wanted of it -/
theorem lp_tried {E M : fs_M} {K : fs_K} {a b : Int} (hB : fs_bE E) (hE : fs_env E M) (hL : fs_bP E M 37) (hr : fs_rows E M 37 = fs_trR E a b) (h2 : M 37 2 = (if a = 0 then 63 else E 31 2)) (h3 : ∀ i, 0 ≤ i → i < 6 → fs_alone E a (M 37 3) i = fs_mal E a b (-1) (E 31 3) i)
    (hK : ∀ M', fs_out fs_F5 M M' → K (some (fs_i (fs_trG E a b))) M') : fs_A2 g m_Fs_tried 8 110 [(0, fs_r 0), (1, fs_i a)] [] M K := by
  have hS : fs_S0 E a (fs_alone E a (M 37 3)) (fs_trR E a b) = fs_S0 E a (fs_mal E a b (-1) (E 31 3)) (fs_trR E a b) := fs_S0_al h3
  have hg : ∀ hv, fs_rG E a (M 37 2) hv (fs_alone E a (M 37 3)) (fs_rows E M 37) = fs_rG E a (M 37 2) hv (fs_mal E a b (-1) (E 31 3)) (fs_trR E a b) := fun hv => by
    unfold fs_rG fs_run
    rw [hr, hS]
  refine L_Fs_tried_110 (sp_run hB fs_pl37 hE hL (fun M1 o1 r1 => ⟨rfl, fun ne => ?_, fun eq => ?_⟩))
  · have e2 : M1 37 2 = E 31 2 := by rw [o1 37 2 (by unfold fs_F5 fs_F2; omega), h2, if_neg ne]
    refine sp_gained (S := (fs_run E a (M 37 2) (fs_alone E a (M 37 3)) (fs_rows E M 37)).2) hB r1.1 r1.2.2.2.2.1 (fun h _ _ => by have := fs_run_7 (tr := a) (rf := M 37 2) (al := fs_alone E a (M 37 3)) hB hL.rows h; omega) ⟨_, rfl, ?_⟩
    have h := hK M1 o1
    unfold fs_trG at h
    rw [if_neg ne, if_neg ne] at h
    have hh := hg (E 31 2)
    rw [h2, if_neg ne] at hh
    rw [← hh] at h
    rw [e2, h2, if_neg ne]
    exact h
  · refine sp_gained (S := (fs_run E a (M 37 2) (fs_alone E a (M 37 3)) (fs_rows E M 37)).2) hB r1.1 r1.2.2.2.2.1 (fun h _ _ => by have := fs_run_7 (tr := a) (rf := M 37 2) (al := fs_alone E a (M 37 3)) hB hL.rows h; omega) ⟨_, rfl, ?_⟩
    have h := hK M1 o1
    unfold fs_trG at h
    rw [if_pos eq, if_pos eq] at h
    have hh := hg 0
    rw [h2, if_pos eq] at hh
    rw [← hh] at h
    rw [h2, if_pos eq]
    exact h
theorem oc_tried {M : fs_M} {K : fs_K} {a b : Int} (hB : fs_bE M) (hp : fs_rp M 31 0) (hz : fs_rz M 31 0) (h0 : ¬ fs_trOk M a b → K (some (fs_i (-1))) M) (hK : fs_trOk M a b → ∀ M', fs_out fs_FR M M' → K (some (fs_i (fs_trG M a b))) M') : fs_C2 g m_Fs_tried 8 [fs_r 0, fs_i a, fs_i b] M K := by
  have h3 := hB.2.2.2.1
  unfold fs_trOk at h0 hK
  have main : ∀ c, (if a = 3 then c = M 1 5 else if a = 4 then c = M 1 9 else c = 1) → fs_A2 g m_Fs_tried 8 31 [(0, fs_r 0), (1, fs_i a), (2, fs_i b)] [fs_i c] M K := by
    intro c hc
    refine L_Fs_tried_31 ⟨fun z => h0 ?_, fun z => ⟨fun z2 => h0 ?_, fun z2 => ⟨fun z3 => h0 ?_, fun z3 => ⟨fun z4 => ?_, fun z4 => h0 ?_⟩⟩⟩⟩
    · split
      · omega
      · split <;> omega
    · split
      · omega
      · split <;> omega
    · split
      · omega
      · split <;> omega
    · have ok : (if a = 3 then 0 ≤ b ∧ b < M 1 5 else if a = 4 then 0 ≤ b ∧ b < M 1 9 else 0 ≤ a ∧ a ≤ 5 ∧ b = 0) := by
        split
        · rename_i q
          rw [if_pos q] at hc
          omega
        · rename_i q
          rw [if_neg q] at hc
          split
          · rename_i q2
            rw [if_pos q2] at hc
            omega
          · rename_i q2
            rw [if_neg q2] at hc
            omega
      have hK' := hK ok
      refine sp_copyFrom (p := 37) (q := 31) io_37 io_31 (by decide) (fun M1 o1 y1 => ⟨rfl, ?_⟩)
      have c1 : fs_c37 M M1 := fs_c37.of (fun _ _ _ _ => rfl) y1
      obtain ⟨r1, r2⟩ := c1.rows h3 hp
      have o1' : fs_out fs_FR M M1 := o1.wk (fun _ _ q => Or.inr q)
      have env1 : ∀ M2, fs_out fs_FR M M2 → fs_env M M2 := fun M2 o2 o k q => o2 o k (by unfold fs_FR fs_F5 fs_F2 fs_plc; unfold fs_eC at q; omega)
      have e2 : M1 37 2 = M 31 2 := y1.1
      have pos : ∀ d h, h ∈ fs_rows M M 31 d → 0 ≤ h := fun d h hh => by
        unfold fs_rows at hh
        split at hh
        · rename_i q
          obtain ⟨k, k0, k1, e⟩ := fs_lst_mem hh
          rw [← e]
          exact ((hp.2.2 d q.1 q.2).2.2.2 k k0 (by omega)).2.1
        · cases hh
      have nom : a ≠ 3 → ∀ out i, 0 ≤ i → i < 6 → fs_alone M a out i = fs_mal M a b (-1) out i := fun na out i i0 i1 => by
        unfold fs_mal
        rw [fs_gn_f i0 na]
        rfl
      have plain : a ≠ 3 → a ≠ 4 → fs_rows M M1 37 = fs_trR M a b := fun n3 n4 => by
        rw [r2]
        funext d
        unfold fs_trR
        rw [if_neg (fun q => n4 q.1), fs_kp_id (pos d) n3]
      refine ⟨fun ne0 => ⟨fun ne3 => ⟨fun ne4 => ?_, fun eq4 => ?_⟩, fun eq3 => ?_⟩, fun eq0 => ?_⟩
      · exact lp_tried hB (env1 M1 o1') r1 (plain ne3 ne4) (by rw [e2, if_neg ne0]) (fun i i0 i1 => by rw [c1.1]; exact nom ne3 _ i i0 i1) (fun M' o' => hK' M' (o1'.tr (o'.wk (fun _ _ q => Or.inl q))))
      · have b1 : 0 ≤ b ∧ b < M 1 9 := by
          rw [if_neg ne3, if_pos eq4] at ok
          exact ok
        refine ⟨by omega, ?_⟩
        have o2 : fs_out fs_FR M (fs_st M1 42 b 0) := o1'.st (Or.inr (Or.inr (by decide)))
        have L2 : fs_bP M (fs_st M1 42 b 0) 37 := fun d d0 d1 => by
          obtain ⟨x1, x2, x3⟩ := r1 d d0 d1
          by_cases c : d = b
          · rw [c, show (37 : Int) + 5 = 42 from rfl, fs_st_s]
            exact ⟨by decide, by decide, fun k k0 k1 => by omega⟩
          · rw [fs_st_k c]
            refine ⟨x1, x2, fun k k0 k1 => ?_⟩
            rw [fs_st_o (by omega)]
            exact x3 k k0 k1
        have R2 : fs_rows M (fs_st M1 42 b 0) 37 = fs_trR M a b := by
          funext d
          have rd : fs_rows M M1 37 d = fs_rows M M 31 d := by rw [r2]
          unfold fs_trR
          by_cases c : d = b
          · rw [if_pos ⟨eq4, c.symm⟩, c]
            unfold fs_rows
            rw [if_pos b1, show (37 : Int) + 5 = 42 from rfl, fs_st_s]
            rfl
          · rw [if_neg (fun q => c q.2.symm), fs_kp_id (pos d) ne3, ← rd]
            unfold fs_rows
            by_cases c2 : 0 ≤ d ∧ d < M 1 9
            · rw [if_pos c2, if_pos c2, fs_st_k c]
              exact fs_lst_cong (fun k _ _ => fs_st_o (by omega))
            · rw [if_neg c2, if_neg c2]
        exact lp_tried hB (env1 _ o2) L2 R2 (by rw [fs_st_o (by decide), e2, if_neg ne0]) (fun i i0 i1 => by rw [fs_st_o (by decide), c1.1]; exact nom ne3 _ i i0 i1) (fun M' o' => hK' M' (o2.tr (o'.wk (fun _ _ q => Or.inl q))))
      · have b1 : 0 ≤ b ∧ b < M 1 5 := by
          rw [if_pos eq3] at ok
          exact ok
        have h6 := hB.2.1
        refine sp_removeHouse (x := b) io_37 (fun d d0 d1 => ?_) (fun M2 o2 f2 f3 fr => ⟨rfl, ?_⟩)
        · by_cases c : d < M 1 9
          · obtain ⟨x1, x2, x3⟩ := r1 d d0 c
            exact ⟨x1, x2, fun k k0 k1 => (x3 k k0 k1).1⟩
          · have e : M1 (37 + 5) d = M 36 d := (c1.2 d d0 d1).1
            have e0 : M 36 d = 0 := (hz d d0 (by omega) d1).1
            rw [e, e0]
            exact ⟨by decide, by decide, fun k k0 k1 => by omega⟩
        · have o2' : fs_out fs_FR M M2 := o1'.tr (o2.wk (fun _ _ q => Or.inr q))
          have R2 : fs_rows M M2 37 = fs_trR M a b := by
            funext d
            unfold fs_trR
            rw [if_neg (by omega)]
            by_cases c : 0 ≤ d ∧ d < M 1 9
            · have rd : fs_rows M M1 37 d = fs_rows M M 31 d := by rw [r2]
              rw [← rd, eq3]
              unfold fs_rows
              rw [if_pos c, if_pos c]
              exact (fr d c.1 (by omega)).2.2
            · unfold fs_rows
              rw [if_neg c, if_neg c]
              rfl
          have L2 : fs_bP M M2 37 := fun d d0 d1 => by
            obtain ⟨x1, x2, x3⟩ := fr d d0 (by omega)
            obtain ⟨z1, z2, z3⟩ := r1 d d0 d1
            refine ⟨x1, by omega, fun k k0 k1 => ?_⟩
            have m := fs_lst_in (M2 (37 + 2 + d)) (M2 (37 + 5) d).toNat 0 k k0 (by omega)
            rw [x3] at m
            unfold fs_kp at m
            obtain ⟨k2, y0, y1, y2⟩ := fs_lst_mem (List.mem_filter.1 m).1
            rw [← y2]
            exact z3 k2 y0 (by omega)
          refine lp_tried hB (env1 _ o2') L2 R2 (by rw [f2, e2, if_neg ne0]) (fun i i0 i1 => ?_) (fun M' o' => hK' M' (o2'.tr (o'.wk (fun _ _ q => Or.inl q))))
          rw [f3, c1.1, eq3]
          unfold fs_mal fs_alone
          rw [fs_gn_3 i0, fs_bit_clear b1.1 (by omega) i0 i1]
          by_cases c : i = b
          · rw [if_pos c, if_neg (by decide), if_pos (decide_eq_true c.symm)]
          · rw [if_neg c, decide_eq_false (fun q => c q.symm)]
            rfl
      · have n3 : a ≠ 3 := by omega
        have n4 : a ≠ 4 := by omega
        have o2 : fs_out fs_FR M (fs_st M1 37 2 63) := o1'.st (Or.inr (Or.inl ⟨rfl, Or.inl rfl⟩))
        have L2 : fs_bP M (fs_st M1 37 2 63) 37 := fun d d0 d1 => by
          obtain ⟨x1, x2, x3⟩ := r1 d d0 d1
          rw [fs_st_o (by decide)]
          refine ⟨x1, x2, fun k k0 k1 => ?_⟩
          rw [fs_st_o (by omega)]
          exact x3 k k0 k1
        have R2 : fs_rows M (fs_st M1 37 2 63) 37 = fs_trR M a b := by
          rw [← plain n3 n4]
          funext d
          unfold fs_rows
          by_cases c2 : 0 ≤ d ∧ d < M 1 9
          · rw [if_pos c2, if_pos c2, fs_st_o (by decide)]
            exact fs_lst_cong (fun k _ _ => fs_st_o (by omega))
          · rw [if_neg c2, if_neg c2]
        exact lp_tried hB (env1 _ o2) L2 R2 (by rw [fs_st_s, if_pos eq0]) (fun i i0 i1 => by rw [fs_st_k (by decide), c1.1]; exact nom n3 _ i i0 i1) (fun M' o' => hK' M' (o2.tr (o'.wk (fun _ _ q => Or.inl q))))
    · split
      · rename_i q
        rw [if_pos q] at hc
        omega
      · rename_i q
        rw [if_neg q] at hc
        split
        · rename_i q2
          rw [if_pos q2] at hc
          omega
        · rename_i q2
          rw [if_neg q2] at hc
          omega
  refine E_Fs_tried ⟨fun n3 => ⟨fun n4 => main 1 ?_, fun e4 => main _ ?_⟩, fun e3 => main _ ?_⟩
  · rw [if_neg n3, if_neg n4]
  · rw [if_neg n3, if_pos e4]
  · rw [if_pos e3]
theorem fs_bit0 : ∀ n : Nat, n < 6 → fs_bit 0 (n : Int) = 0 := by decide +kernel
theorem om_tried {E M : fs_M} {K : fs_K} {a b : Int} (hB : fs_bE E) (hT : fs_rt E) (hp : fs_rp E 31 0) (hE : fs_envM E M) (h0 : ¬ fs_trOk E a b → K (some (fs_i (-1))) (fs_st M 226 0 0)) (hK : fs_trOk E a b → ∀ M', fs_out fs_FM M M' → K (some (fs_i (fs_trG E a b))) M') : fs_C2 g m_Mo_tried 9 [fs_r 226, fs_i a, fs_i b] M K := by
  have h3 := hB.2.2.2.1
  have h6 := hB.2.1
  unfold fs_trOk at h0 hK
  have main : ∀ c, (c = 0 ∨ c = 1) → (c = 1 ↔ (if a = 3 then 0 ≤ b ∧ b < E 1 5 else if a = 4 then 0 ≤ b ∧ b < E 1 9 else 0 ≤ a ∧ a ≤ 5 ∧ b = 0)) → fs_A2 g m_Mo_tried 9 49 [(0, fs_r 226), (1, fs_i a), (2, fs_i b)] [fs_i c] (fs_st M 226 0 0) K := by
    intro c c01 hc
    refine L_Mo_tried_49 ⟨fun nz => ?_, fun z => h0 (fun q => by have := hc.2 q; omega)⟩
    have ok := hc.1 (by omega)
    have hK' := hK ok
    refine sp_asIsM hp (fs_envM0 hE) (fun M1 o1 q1 => ⟨rfl, ?_⟩)
    have o1' : fs_out fs_FM M M1 := fs_out0.tr (o1.wk (fun _ _ q => Or.inl (Or.inr q)))
    obtain ⟨h42, h43, h44, h47, hr⟩ := q1
    have fin : ∀ M2, (∀ o k, o ≠ 226 → M2 o k = M1 o k) → M2 226 42 = a → M2 226 43 = b → M2 226 44 = -1 → M2 226 47 = (if a = 0 then 63 else E 31 2) → fs_out fs_FM M M2 → fs_A2 g m_Mo_tried 9 80 [(0, fs_r 226)] [] M2 K := by
      intro M2 m2 g42 g43 g44 g47 o2
      have rws2 : fs_rws E M2 := fun d d0 d1 => by
        rw [m2 252 d (by decide)]
        refine ⟨(hr d d0 d1).1, fun k k0 k1 => ?_⟩
        rw [m2 251 _ (by decide)]
        exact (hr d d0 d1).2 k k0 k1
      obtain ⟨w1, w2⟩ := fs_rows_now hp rws2 h3
      have c2 : ∀ o k, fs_eC o ∨ fs_mlc 0 o k → M2 o k = E o k := fun o k q => by
        rw [o2 o k (by unfold fs_FM fs_F9 fs_F6 fs_F8 fs_F4; unfold fs_eC fs_mlc at q; omega)]
        exact hE o k q
      have mr : fs_mrows E M2 a b (-1) = fs_trR E a b := by
        funext d
        have wd : fs_mrows E M2 (-1) (-1) (-1) d = fs_rows E E 31 d := by rw [w2]
        unfold fs_trR
        unfold fs_mrows at wd ⊢
        by_cases q : 0 ≤ d ∧ d < E 1 9
        · rw [if_pos ⟨q.1, q.2, by omega⟩, fs_kp_id (fun h hh => ?_) (by decide)] at wd
          · rw [wd]
            by_cases q2 : a = 4 ∧ b = d
            · rw [if_neg (fun z => z.2.2 q2), if_pos q2]
            · rw [if_pos ⟨q.1, q.2, q2⟩, if_neg q2]
          · unfold fs_left at hh
            obtain ⟨k, k0, k1, e⟩ := fs_lst_mem hh
            obtain ⟨x1, x2, x3⟩ := w1 d q.1 q.2
            have := (x3 (k - 9 * d) (by omega) (by omega)).1
            rw [show 9 * d + (k - 9 * d) = k by omega, e] at this
            exact this
        · rw [if_neg (fun z => q ⟨z.1, z.2.1⟩)] at wd
          rw [if_neg (fun z => q ⟨z.1, z.2.1⟩), ← wd]
          split <;> rfl
      have g244 : M2 244 0 = E 31 3 := by rw [c2 244 0 (Or.inr (by unfold fs_mlc; omega)), hp.2.1]
      refine L_Mo_tried_80 (sp_walks hB hT (fun o k q => c2 o k (Or.inl q)) w1 g42 g43 g44 g47 (by decide) (fun M3 o3 _ r3 => ⟨rfl, ?_⟩))
      rw [mr, g244] at r3
      have h47' : M3 226 47 = (if a = 0 then 63 else E 31 2) := by rw [o3 226 47 (by unfold fs_F6 fs_F4; omega), g47]
      refine sp_gains (hv := if a = 0 then 0 else E 31 2) (tr := a) hB hT r3.1 r3.2.2.2.2.2.1 r3.2.1.1 (fun h h0 h1 => ?_) ⟨_, rfl, E_Mo_plain ⟨rfl, ?_⟩⟩
      · rw [h47']
        by_cases c : a = 0
        · rw [if_pos c]
          have := fs_bit0 h.toNat (by omega)
          rw [show ((h.toNat : Nat) : Int) = h by omega] at this
          rw [this]
          exact ⟨fun q => absurd q (by decide), fun q => absurd c q.1⟩
        · rw [if_neg c, if_neg c]
          exact ⟨fun q => ⟨c, q⟩, fun q => q.2⟩
      · have o4 : fs_out fs_FM M M3 := o2.tr (o3.wk (fun _ _ q => Or.inl (Or.inl q)))
        refine hK' _ (((o4.st ?_).st ?_).st ?_)
        · exact Or.inl (Or.inr (by unfold fs_F8; omega))
        · exact Or.inl (Or.inr (by unfold fs_F8; omega))
        · exact Or.inl (Or.inr (by unfold fs_F8; omega))
    refine ⟨fun ne => fin _ (fun o k q => by rw [fs_st_o q, fs_st_o q]) (by rw [fs_st_k (by decide), fs_st_s]) (by rw [fs_st_s]) (by rw [fs_st_k (by decide), fs_st_k (by decide)]; exact h44) (by rw [fs_st_k (by decide), fs_st_k (by decide), if_neg ne]; exact h47) ((o1'.st ?_).st ?_), fun eq => fin _ (fun o k q => by rw [fs_st_o q, fs_st_o q, fs_st_o q]) (by rw [fs_st_k (by decide), fs_st_k (by decide), fs_st_s]) (by rw [fs_st_k (by decide), fs_st_s]) (by rw [fs_st_k (by decide), fs_st_k (by decide), fs_st_k (by decide)]; exact h44) (by rw [fs_st_s, if_pos eq]) (((o1'.st ?_).st ?_).st ?_)⟩
    · exact Or.inl (Or.inr (by unfold fs_F8; omega))
    · exact Or.inl (Or.inr (by unfold fs_F8; omega))
    · exact Or.inl (Or.inr (by unfold fs_F8; omega))
    · exact Or.inl (Or.inr (by unfold fs_F8; omega))
    · exact Or.inl (Or.inr (by unfold fs_F8; omega))
  have e0 : fs_st M 226 0 0 228 0 = E 1 5 := by rw [fs_st_o (by decide), hE 228 0 (Or.inl (by unfold fs_eC; omega)), hT.1]
  have e1 : fs_st M 226 0 0 228 1 = E 1 9 := by rw [fs_st_o (by decide), hE 228 1 (Or.inl (by unfold fs_eC; omega)), hT.2.1]
  refine E_Mo_tried ⟨fun n3 => ⟨fun n4 => ⟨fun z => main 0 (Or.inl rfl) ?_, fun z => ⟨fun z2 => main 0 (Or.inl rfl) ?_, fun z2 => ⟨fun z3 => main 0 (Or.inl rfl) ?_, fun z3 => main 1 (Or.inr rfl) ?_⟩⟩⟩, fun e4 => E_Mo_isDark ⟨fun z => ⟨0, rfl, main 0 (Or.inl rfl) ?_⟩, fun z => ⟨fun z2 => ⟨0, rfl, main 0 (Or.inl rfl) ?_⟩, fun z2 => ⟨1, rfl, main 1 (Or.inr rfl) ?_⟩⟩⟩⟩, fun e3 => E_Mo_isHouse ⟨fun z => ⟨0, rfl, main 0 (Or.inl rfl) ?_⟩, fun z => ⟨fun z2 => ⟨0, rfl, main 0 (Or.inl rfl) ?_⟩, fun z2 => ⟨1, rfl, main 1 (Or.inr rfl) ?_⟩⟩⟩⟩
  · rw [if_neg n3, if_neg n4]; omega
  · rw [if_neg n3, if_neg n4]; omega
  · rw [if_neg n3, if_neg n4]; omega
  · rw [if_neg n3, if_neg n4]; omega
  · rw [if_neg n3, if_pos e4]; omega
  · rw [if_neg n3, if_pos e4]; omega
  · rw [if_neg n3, if_pos e4]; omega
  · rw [if_pos e3]; omega
  · rw [if_pos e3]; omega
  · rw [if_pos e3]; omega
end TRIED
