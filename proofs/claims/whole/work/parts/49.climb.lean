-- ===== exchange, climb =====
def fs_vExch (E : fs_M) (a : Int) : Int := if a < 0 ∨ 4 < a then -1 else if (fs_xb E).2.1 = -1 then -2 else if a = 0 then (fs_xb E).1 else if a = 1 then fs_div (fs_xb E).2.1 9 else if a = 2 then fs_rem (fs_xb E).2.1 9 else if a = 3 then fs_div (fs_xb E).2.2 9 else fs_rem (fs_xb E).2.2 9
def fs_FYt (o k : Int) : Prop := fs_FY o k ∨ (o = 226 ∧ k = 0)
/-- exchanges, one behind another: how many, and what stands then -/
def fs_clb : Nat → fs_M → Int × fs_M
  | 0, E => (0, E)
  | n + 1, E => if (fs_xb E).2.1 = -1 then (0, E) else ((fs_clb n (fs_sw2 E (fs_xb E).2.1 (fs_xb E).2.2)).1 + 1, (fs_clb n (fs_sw2 E (fs_xb E).2.1 (fs_xb E).2.2)).2)
theorem fs_clb_z {n : Nat} {E : fs_M} (h : (fs_xb E).2.1 = -1) : fs_clb n E = (0, E) := by
  cases n with
  | zero => rfl
  | succ n =>
    show (if (fs_xb E).2.1 = -1 then (0, E) else _) = _
    rw [if_pos h]
theorem fs_clb_s {n : Nat} {E : fs_M} (h : (fs_xb E).2.1 ≠ -1) : fs_clb (n + 1) E = ((fs_clb n (fs_sw2 E (fs_xb E).2.1 (fs_xb E).2.2)).1 + 1, (fs_clb n (fs_sw2 E (fs_xb E).2.1 (fs_xb E).2.2)).2) := by
  show (if (fs_xb E).2.1 = -1 then (0, E) else _) = _
  rw [if_neg h]
/-- what a good exchange is -/
theorem fs_xb_ok {E : fs_M} (hD : E 1 9 ≤ 3) (hp : fs_rp E 31 0) (hz : fs_rz E 31 0) (h : (fs_xb E).2.1 ≠ -1) : fs_vGain E < (fs_xb E).1 ∧ 0 ≤ (fs_xb E).2.1 ∧ (fs_xb E).2.1 < 27 ∧ 0 ≤ (fs_xb E).2.2 ∧ (fs_xb E).2.2 < 27 ∧ (fs_xb E).1 = fs_vGain (fs_sw2 E (fs_xb E).2.1 (fs_xb E).2.2) ∧ fs_rp (fs_sw2 E (fs_xb E).2.1 (fs_xb E).2.2) 31 0 ∧ fs_rz (fs_sw2 E (fs_xb E).2.1 (fs_xb E).2.2) 31 0 := by
  rcases fs_xb_is (E := E) with ⟨_, a⟩ | ⟨a1, a2, a3, a4, a5, a6, a7, a8⟩
  · exact absurd a h
  · obtain ⟨p, q⟩ := fs_rp_sw2 hD hp hz a2 a3 a4 a5 a6 a7
    exact ⟨a1, a2, a3, a4, a5, a8, p, q⟩
theorem fs_clb_inv : ∀ (n : Nat) (E : fs_M), E 1 9 ≤ 3 → fs_rp E 31 0 → fs_rz E 31 0 → fs_rp (fs_clb n E).2 31 0 ∧ fs_rz (fs_clb n E).2 31 0 ∧ 0 ≤ (fs_clb n E).1 ∧ (∀ o k, (o < 33 ∨ 35 < o) → o ≠ 241 → (fs_clb n E).2 o k = E o k)
  | 0, E, _, hp, hz => ⟨hp, hz, Int.le_refl 0, fun _ _ _ _ => rfl⟩
  | n + 1, E, hD, hp, hz => by
    by_cases h : (fs_xb E).2.1 = -1
    · rw [fs_clb_z h]
      exact ⟨hp, hz, Int.le_refl 0, fun _ _ _ _ => rfl⟩
    · obtain ⟨a1, a2, a3, a4, a5, a6, p, q⟩ := fs_xb_ok hD hp hz h
      have so : ∀ o k, (o < 33 ∨ 35 < o) → o ≠ 241 → fs_sw2 E (fs_xb E).2.1 (fs_xb E).2.2 o k = E o k := fun o k q1 q2 => fs_sw2_o a2 a3 a4 a5 q1 q2
      obtain ⟨r1, r2, r3, r4⟩ := fs_clb_inv n _ (by rw [so 1 9 (by decide) (by decide)]; exact hD) p q
      rw [fs_clb_s h]
      exact ⟨r1, r2, by show 0 ≤ (fs_clb n (fs_sw2 E (fs_xb E).2.1 (fs_xb E).2.2)).1 + 1; omega, fun o k q1 q2 => by rw [r4 o k q1 q2]; exact so o k q1 q2⟩
def fs_FCl (o k : Int) : Prop := fs_FX o k ∨ (33 ≤ o ∧ o ≤ 35)
def fs_FLm (o k : Int) : Prop := fs_FY o k ∨ (o = 241 ∧ 0 ≤ k ∧ k < 27)
section CLIMB
variable {g : fs_G}
theorem sp_rememberQ {M : fs_M} {K : fs_K} {q : Int} (hq : fs_isO 6 q) (hq0 : 31 ≤ q) (hq1 : q ≤ 37) (h0 : 0 ≤ M 95 1) (h1 : M 95 1 < 20) (h2 : 0 ≤ M 95 2) (h3 : M 95 2 ≤ 20)
    (hK : ∀ M', fs_out fs_FPa M M' → M' 95 1 = fs_pO (M 95 1) (M 95 2) → M' 95 2 = fs_pL (M 95 2) + 1 → fs_pcp M' (fs_slot (fs_pO (M 95 1) (M 95 2)) (fs_pL (M 95 2))) M q → (∀ j, 0 ≤ j → j < fs_pL (M 95 2) → fs_pcp M' (fs_slot (fs_pO (M 95 1) (M 95 2)) j) M (fs_slot (fs_pO (M 95 1) (M 95 2)) j)) → K none M') : fs_C2 g m_Past_remember 2 [fs_r 95, fs_r q] M K := by
  have l32 : ∀ M1, (∀ o k, o ≠ 95 → M1 o k = M o k) → (∀ k, k ≠ 1 → k ≠ 2 → M1 95 k = M 95 k) → M1 95 1 = fs_pO (M 95 1) (M 95 2) → M1 95 2 = fs_pL (M 95 2) → fs_A2 g m_Past_remember 2 32 [(0, fs_r 95), (1, fs_r q)] [] M1 K := by
    intro M1 r1 r95 e1 e2
    generalize hO : fs_pO (M 95 1) (M 95 2) = O at *
    generalize hL : fs_pL (M 95 2) = L at *
    have bO : 0 ≤ O ∧ O < 20 := by
      rw [← hO]
      unfold fs_pO
      split <;> omega
    have bL : 0 ≤ L ∧ L < 20 := by
      rw [← hL]
      unfold fs_pL
      split <;> omega
    refine L_Past_remember_32 hq ?_
    rw [e1, e2, fs_w32_of (by omega) (by omega), fs_remP (by omega) (by omega) (by decide) (by decide)]
    refine ⟨by omega, by omega, ?_⟩
    have sb := fs_slot_b O L
    refine sp_copyFrom (p := fs_slot O L) (q := q) fs_slot_O hq (by omega) (fun M2 o2 c2 => ⟨rfl, ?_⟩)
    have q2 : ∀ o k, (o < fs_slot O L ∨ fs_slot O L + 5 < o) → M2 o k = M1 o k := fun o k a => o2 o k (by unfold fs_plc; omega)
    rw [q2 95 2 (by omega), e2, fs_w32_of (by omega) (by omega)]
    have q3 : ∀ o k, o ≠ 95 → fs_st M2 95 2 (L + 1) o k = M2 o k := fun o k a => fs_st_o a
    refine hK _ (fun o k nF => ?_) (by rw [fs_st_k (by decide), q2 95 1 (by omega), e1]) (by rw [fs_st_s]) ?_ (fun j j0 j1 => ?_)
    · by_cases c : o = 95
      · rw [c] at nF ⊢
        rw [fs_st_k (by unfold fs_FPa at nF; omega), q2 95 k (by omega)]
        exact r95 k (by unfold fs_FPa at nF; omega) (by unfold fs_FPa at nF; omega)
      · rw [q3 o k c, q2 o k (by unfold fs_FPa at nF; omega)]
        exact r1 o k c
    · obtain ⟨x1, x2, x3⟩ := c2
      refine ⟨by rw [q3 _ _ (by omega), x1, r1 _ _ (by omega)], by rw [q3 _ _ (by omega), x2, r1 _ _ (by omega)], fun d d0 d1 => ?_⟩
      obtain ⟨y1, y2⟩ := x3 d d0 d1
      rw [q3 _ _ (by omega), y1, r1 _ _ (by omega)]
      refine ⟨rfl, fun k k0 k1 => ?_⟩
      rw [q3 _ _ (by omega), y2 k k0 k1, r1 _ _ (by omega)]
    · have ne := fs_slot_ne (o := O) j0 j1 bL.2
      have sj := fs_slot_b O j
      refine fs_pcp_rf (fun o k a b => ?_)
      rw [q3 o k (by omega), q2 o k (by omega), r1 o k (by omega)]
  refine E_Past_remember hq ⟨fun z => l32 M (fun _ _ _ => rfl) (fun _ _ _ => rfl) ?_ ?_, fun z => ?_⟩
  · unfold fs_pO
    rw [if_neg z]
  · unfold fs_pL
    rw [if_neg z]
  · rw [fs_w32_of (by omega) (by omega), fs_w32_of (by omega) (by omega), fs_remP (by omega) (by omega) (by decide) (by decide)]
    refine l32 _ (fun o k a => by rw [fs_st_o a, fs_st_o a]) (fun k a b => by rw [fs_st_k b, fs_st_k a]) ?_ ?_
    · rw [fs_st_k (by decide), fs_st_s]
      unfold fs_pO
      rw [if_pos z]
    · rw [fs_st_s, z]
      rfl
theorem oc_exchange {M : fs_M} {K : fs_K} {a : Int} (hB : fs_bE M) (hp : fs_rp M 31 0) (hz : fs_rz M 31 0) (hK : ∀ M', fs_out fs_FX M M' → K (some (fs_i (fs_vExch M a))) M') : fs_C2 g m_Fs_exchange 9 [fs_r 0, fs_i a] M K := by
  unfold fs_vExch at hK
  refine E_Fs_exchange ⟨fun z => ?_, fun z => ⟨fun z2 => ?_, fun z2 => ?_⟩⟩
  · have h := hK M fs_out.rf
    rw [if_pos (by omega)] at h
    exact h
  · refine sp_findExchange hB hp hz (fun _ _ _ => rfl) (fun M1 o1 e1 e2 e3 => ⟨rfl, ?_⟩)
    have h := hK M1 o1
    rw [if_neg (by omega)] at h
    rw [e1, e2, e3]
    refine ⟨fun q => ?_, fun q => ?_⟩
    · rw [if_neg q] at h
      refine ⟨fun w => ?_, fun w => ?_, fun w => ?_, fun w => ?_, fun w => ?_⟩
      · rw [if_pos w] at h; exact h
      · rw [if_neg (by omega), if_pos w] at h; exact h
      · rw [if_neg (by omega), if_neg (by omega), if_pos w] at h; exact h
      · rw [if_neg (by omega), if_neg (by omega), if_neg (by omega), if_pos w] at h; exact h
      · rw [if_neg (by omega), if_neg (by omega), if_neg (by omega), if_neg (by omega)] at h; exact h
    · rw [if_pos q] at h; exact h
  · have h := hK M fs_out.rf
    rw [if_pos (by omega)] at h
    exact h
theorem fs_envM0 {E M : fs_M} (hE : fs_envM E M) : fs_envM E (fs_st M 226 0 0) := fun o k q => by
  rw [fs_st_o (by unfold fs_eC fs_mlc at q; omega)]
  exact hE o k q
theorem fs_outt {M : fs_M} : fs_out fs_FYt M (fs_st M 226 0 0) := fs_out.rf.st (Or.inr ⟨rfl, rfl⟩)
theorem om_exchange {E M : fs_M} {K : fs_K} {a : Int} (hB : fs_bE E) (hT : fs_rt E) (hp : fs_rp E 31 0) (hz : fs_rz E 31 0) (hE : fs_envM E M) (hK : ∀ M', fs_out fs_FYt M M' → K (some (fs_i (fs_vExch E a))) M') : fs_C2 g m_Mo_exchange 11 [fs_r 226, fs_i a] M K := by
  unfold fs_vExch at hK
  refine E_Mo_exchange ⟨fun z => ?_, fun z => ⟨fun z2 => ?_, fun z2 => ?_⟩⟩
  · have h := hK _ fs_outt
    rw [if_pos (by omega)] at h
    exact h
  · refine sp_layExchange hB hT hp hz (fs_envM0 hE) (fun q M1 o1 => ⟨0, rfl, fun w => absurd rfl w, fun _ => ?_⟩) (fun q M1 o1 e1 e2 e3 => ⟨1, rfl, fun _ => ?_, fun w => absurd w (by decide)⟩)
    · have h := hK M1 (fs_outt.tr (o1.wk (fun _ _ q => Or.inl q)))
      rw [if_neg (by omega), if_pos q] at h
      exact h
    · have h := hK M1 (fs_outt.tr (o1.wk (fun _ _ q => Or.inl q)))
      rw [if_neg (by omega), if_neg q] at h
      rw [e1, e2, e3]
      refine ⟨fun w => ?_, fun w => ?_, fun w => ?_, fun w => ?_, fun w => ?_⟩
      · rw [if_pos w] at h; exact h
      · rw [if_neg (by omega), if_pos w] at h; exact h
      · rw [if_neg (by omega), if_neg (by omega), if_pos w] at h; exact h
      · rw [if_neg (by omega), if_neg (by omega), if_neg (by omega), if_pos w] at h; exact h
      · rw [if_neg (by omega), if_neg (by omega), if_neg (by omega), if_neg (by omega)] at h; exact h
  · have h := hK _ fs_outt
    rw [if_pos (by omega)] at h
    exact h
/-- the class climbs -/
theorem lp_climb {M0 : fs_M} {K : fs_K} : ∀ (n : Nat) (E M1 : fs_M) (x1 : Int), fs_bE E → fs_rp E 31 0 → fs_rz E 31 0 → fs_envC E M1 → M1 0 14 = (fs_xb E).1 → M1 0 15 = (fs_xb E).2.1 → M1 0 16 = (fs_xb E).2.2 → 594 - fs_vGain E < n → 0 ≤ x1 → x1 ≤ fs_vGain E → fs_out fs_FCl M0 M1 →
    (∀ M', fs_out fs_FCl M0 M' → fs_envC (fs_clb n E).2 M' → fs_A2 g m_Fs_climb 9 57 [(0, fs_r 0), (1, fs_i (x1 + (fs_clb n E).1))] [] M' K) → fs_A2 g m_Fs_climb 9 17 [(0, fs_r 0), (1, fs_i x1)] [] M1 K := by
  intro n
  induction n with
  | zero =>
    intro E M1 x1 hB hp hz hE e1 e2 e3 hn x0 xl o1 hK
    have := fs_vGain_b hB
    omega
  | succ n ih =>
    intro E M1 x1 hB hp hz hE e1 e2 e3 hn x0 xl o1 hK
    have vb := fs_vGain_b hB
    refine L_Fs_climb_17 ⟨fun z => by omega, fun _ => ⟨fun z => ?_, fun z => ?_⟩⟩
    · rw [e2] at z
      rw [fs_clb_z z] at hK
      have := hK M1 o1 hE
      rw [show x1 + ((0 : Int), E).1 = x1 from Int.add_zero x1] at this
      exact this
    · rw [e2] at z
      obtain ⟨a1, a2, a3, a4, a5, a6, p, q⟩ := fs_xb_ok hB.2.2.2.1 hp hz z
      rw [e2, e3]
      have env' : fs_env E (fs_sw2 E (fs_xb E).2.1 (fs_xb E).2.2) := fs_sw2_env a2 a3 a4 a5
      have hB' := env'.bE hB
      have E4 : fs_envC (fs_sw2 E (fs_xb E).2.1 (fs_xb E).2.2) (fs_sw M1 31 (fs_xb E).2.1 (fs_xb E).2.2) := fun o k q => by
        have q2 : o ≠ 241 := by unfold fs_eC at q; omega
        unfold fs_sw2
        rw [if_neg q2, fs_sw_at a2 a3 a4 a5, fs_sw_at a2 a3 a4 a5]
        have pvi : fs_pv M1 (fs_xb E).2.1 = fs_pv E (fs_xb E).2.1 := hE _ _ (by omega)
        have pvj : fs_pv M1 (fs_xb E).2.2 = fs_pv E (fs_xb E).2.2 := hE _ _ (by omega)
        rw [pvi, pvj, hE o k q]
      have o4 : fs_out fs_FCl M0 (fs_sw M1 31 (fs_xb E).2.1 (fs_xb E).2.2) := fun o k nF => by
        rw [fs_sw_o (by unfold fs_FCl at nF; omega) a2 a3 a4 a5]
        exact o1 o k nF
      refine sp_swap io_31 a2 a3 a4 a5 ⟨rfl, sp_findExchange hB' p q E4 (fun M5 o5 f1 f2 f3 => ⟨rfl, ?_⟩)⟩
      rw [fs_w32_of (by omega) (by omega)]
      refine ih _ M5 (x1 + 1) hB' p q (fs_FX_C E4 o5) f1 f2 f3 (by omega) (by omega) (by omega) (o4.tr (o5.wk (fun _ _ q => Or.inl q))) (fun M' o' hE' => ?_)
      rw [fs_clb_s z] at hK
      have := hK M' o' hE'
      rw [show x1 + ((fs_clb n (fs_sw2 E (fs_xb E).2.1 (fs_xb E).2.2)).1 + 1, (fs_clb n (fs_sw2 E (fs_xb E).2.1 (fs_xb E).2.2)).2).1 = x1 + 1 + (fs_clb n (fs_sw2 E (fs_xb E).2.1 (fs_xb E).2.2)).1 from by show x1 + ((fs_clb n (fs_sw2 E (fs_xb E).2.1 (fs_xb E).2.2)).1 + 1) = _; omega] at this
      exact this
def fs_FLc (o k : Int) : Prop := fs_FCl o k ∨ fs_plc 37 o k ∨ fs_FPa o k
theorem oc_climb {M : fs_M} {K : fs_K} (hB : fs_bE M) (hp : fs_pr M) (hz : fs_rz M 31 0)
    (h0 : (fs_clb 595 M).1 = 0 → ∀ M', fs_out (fun o k => fs_FX o k ∨ fs_plc 37 o k) M M' → K (some (fs_i 0)) M')
    (h1 : (fs_clb 595 M).1 ≠ 0 → ∀ M', fs_out fs_FLc M M' → fs_envC (fs_clb 595 M).2 M' → M' 95 1 = fs_pO (M 95 1) (M 95 2) → M' 95 2 = fs_pL (M 95 2) + 1 → fs_pcp M' (fs_slot (fs_pO (M 95 1) (M 95 2)) (fs_pL (M 95 2))) M 31 → (∀ j, 0 ≤ j → j < fs_pL (M 95 2) → fs_pcp M' (fs_slot (fs_pO (M 95 1) (M 95 2)) j) M (fs_slot (fs_pO (M 95 1) (M 95 2)) j)) → K (some (fs_i (fs_clb 595 M).1)) M') : fs_C2 g m_Fs_climb 9 [fs_r 0] M K := by
  obtain ⟨p1, p2, p3, p4, p5, p6, p7⟩ := hp
  obtain ⟨c1, c2, c3, c4⟩ := fs_clb_inv 595 M hB.2.2.2.1 p6 hz
  refine E_Fs_climb (sp_copyFrom (p := 37) (q := 31) io_37 io_31 (by decide) (fun M1 o1 y1 => ⟨rfl, ?_⟩))
  have E1 : fs_envC M M1 := fun o k q => o1 o k (by unfold fs_plc; unfold fs_eC at q; omega)
  refine sp_findExchange hB p6 hz E1 (fun M2 o2 e1 e2 e3 => ⟨rfl, ?_⟩)
  have vb := fs_vGain_b hB
  by_cases hc : (fs_xb M).2.1 = -1
  · have z0 : (fs_clb 595 M).1 = 0 := by rw [fs_clb_z hc]
    refine L_Fs_climb_17 ⟨fun z => absurd z (by decide), fun _ => ⟨fun z => L_Fs_climb_57 ⟨fun _ => h0 z0 M2 ?_, fun z => absurd (by decide) z⟩, fun z => absurd (by rw [e2]; exact hc) z⟩⟩
    exact (o1.wk (fun _ _ q => Or.inr q)).tr (o2.wk (fun _ _ q => Or.inl q))
  · refine lp_climb (M0 := M2) 595 M M2 0 hB p6 hz (fs_FX_C E1 o2) e1 e2 e3 (by omega) (by decide) (by omega) fs_out.rf (fun M3 o3 E3 => ?_)
    rw [Int.zero_add]
    have pos : (fs_clb 595 M).1 ≠ 0 := by
      rw [show (595 : Nat) = 594 + 1 from rfl, fs_clb_s hc]
      obtain ⟨a1, a2, a3, a4, a5, a6, p, q⟩ := fs_xb_ok hB.2.2.2.1 p6 hz hc
      have := (fs_clb_inv 594 _ (by rw [fs_sw2_o a2 a3 a4 a5 (by decide) (by decide)]; exact hB.2.2.2.1) p q).2.2.1
      show (fs_clb 594 (fs_sw2 M (fs_xb M).2.1 (fs_xb M).2.2)).1 + 1 ≠ 0
      omega
    refine L_Fs_climb_57 ⟨fun z => by omega, fun _ => ?_⟩
    have k12 : ∀ o k, ¬ fs_FX o k → ¬ fs_plc 37 o k → M2 o k = M o k := fun o k a b => by
      rw [o2 o k a, o1 o k b]
    have k3 : ∀ o k, ¬ fs_FCl o k → ¬ fs_plc 37 o k → M3 o k = M o k := fun o k a b => by
      rw [o3 o k a, k12 o k (fun z => a (Or.inl z)) b]
    have x951 : M3 95 1 = M 95 1 := k3 95 1 (by unfold fs_FCl fs_FX fs_F5 fs_F2; omega) (by unfold fs_plc; omega)
    have x952 : M3 95 2 = M 95 2 := k3 95 2 (by unfold fs_FCl fs_FX fs_F5 fs_F2; omega) (by unfold fs_plc; omega)
    refine sp_rememberQ io_37 (by decide) (by decide) (by rw [x951]; exact p1) (by rw [x951]; exact p2) (by rw [x952]; exact p3) (by rw [x952]; exact p4) (fun M4 o4 f1 f2 f3 f4 => ⟨rfl, ?_⟩)
    rw [x951, x952] at f1 f3 f4
    rw [x952] at f2
    have c37 : fs_pcp M3 37 M 31 := by
      refine fs_pcp.tr (fs_pcp_rf (fun o k a b => ?_)) y1
      rw [o3 o k (by unfold fs_FCl fs_FX fs_F5 fs_F2; omega), o2 o k (by unfold fs_FX fs_F5 fs_F2; omega)]
    refine h1 pos M4 ?_ ?_ f1 f2 (f3.tr c37) (fun j j0 j1 => (f4 j j0 j1).tr (fs_pcp_rf (fun o k a b => ?_)))
    · exact fun o k nF => by
        rw [o4 o k (fun z => nF (Or.inr (Or.inr z)))]
        exact k3 o k (fun z => nF (Or.inl z)) (fun z => nF (Or.inr (Or.inl z)))
    · exact fun o k q => by
        rw [o4 o k (by unfold fs_FPa; unfold fs_eC at q; omega)]
        exact E3 o k q
    · have sb := fs_slot_b (fs_pO (M 95 1) (M 95 2)) j
      exact k3 o k (by unfold fs_FCl fs_FX fs_F5 fs_F2; omega) (by unfold fs_plc; omega)
/-- the model climbs -/
theorem lp_moclimb {M0 : fs_M} {K : fs_K} : ∀ (n : Nat) (E M1 : fs_M) (x1 : Int), fs_bE E → fs_rt E → fs_rp E 31 0 → fs_rz E 31 0 → fs_envM E M1 → 594 - fs_vGain E < n → 1 ≤ x1 → x1 ≤ fs_vGain E → fs_out fs_FLm M0 M1 →
    (∀ M', fs_out fs_FLm M0 M' → fs_envM (fs_clb n E).2 M' → K (some (fs_i (x1 + (fs_clb n E).1))) M') → fs_A2 g m_Mo_climb 11 7 [(0, fs_r 226), (1, fs_i x1)] [] M1 K := by
  intro n
  induction n with
  | zero =>
    intro E M1 x1 hB hT hp hz hE hn x0 xl o1 hK
    have := fs_vGain_b hB
    omega
  | succ n ih =>
    intro E M1 x1 hB hT hp hz hE hn x0 xl o1 hK
    have vb := fs_vGain_b hB
    refine L_Mo_climb_7 (sp_layExchange hB hT hp hz hE (fun z M2 o2 => ⟨0, rfl, fun _ => ?_, fun w => absurd rfl w⟩) (fun z M2 o2 e1 e2 e3 => ⟨1, rfl, fun w => absurd w (by decide), fun _ => ⟨fun _ => ?_, fun w => by omega⟩⟩))
    · rw [fs_clb_z z] at hK
      have := hK M2 (o1.tr (o2.wk (fun _ _ q => Or.inl q))) (fs_FY_M hE o2)
      rw [show x1 + ((0 : Int), E).1 = x1 from Int.add_zero x1] at this
      exact this
    · obtain ⟨a1, a2, a3, a4, a5, a6, p, q⟩ := fs_xb_ok hB.2.2.2.1 hp hz z
      have env' : fs_env E (fs_sw2 E (fs_xb E).2.1 (fs_xb E).2.2) := fs_sw2_env a2 a3 a4 a5
      have E2 := fs_FY_M hE o2
      refine L_Mo_climb_22 ?_
      rw [e2, e3, fs_w32_of (by omega) (by omega), E2 241 _ (Or.inr (by unfold fs_mlc; omega)), E2 241 _ (Or.inr (by unfold fs_mlc; omega))]
      refine ⟨a2, by omega, a4, by omega, ?_⟩
      have mo : ∀ o k, o ≠ 241 → fs_st (fs_st M2 241 (fs_xb E).2.1 (E 241 (fs_xb E).2.2)) 241 (fs_xb E).2.2 (E 241 (fs_xb E).2.1) o k = M2 o k := fun o k q => by rw [fs_st_o q, fs_st_o q]
      have mr : ∀ k, fs_st (fs_st M2 241 (fs_xb E).2.1 (E 241 (fs_xb E).2.2)) 241 (fs_xb E).2.2 (E 241 (fs_xb E).2.1) 241 k = if k = (fs_xb E).2.2 then E 241 (fs_xb E).2.1 else if k = (fs_xb E).2.1 then E 241 (fs_xb E).2.2 else M2 241 k := fun k => by
        unfold fs_st
        simp
      refine ih (fs_sw2 E (fs_xb E).2.1 (fs_xb E).2.2) _ (x1 + 1) (env'.bE hB) (env'.rt hT) p q (fun o k q => ?_) (by omega) (by omega) (by omega) (fs_out.st (fs_out.st (o1.tr (o2.wk (fun _ _ q => Or.inl q))) ?_) ?_) (fun M' o' hE' => ?_)
      · by_cases c : o = 241
        · rw [c, mr]
          unfold fs_sw2
          rw [if_pos rfl, E2 241 k (by rw [c] at q; exact q)]
        · rw [mo o k c, E2 o k q, fs_sw2_o a2 a3 a4 a5 (by unfold fs_eC fs_mlc at q; omega) c]
      · exact Or.inr ⟨rfl, a2, a3⟩
      · exact Or.inr ⟨rfl, a4, a5⟩
      · rw [fs_clb_s z] at hK
        have := hK M' o' hE'
        rw [show x1 + ((fs_clb n (fs_sw2 E (fs_xb E).2.1 (fs_xb E).2.2)).1 + 1, (fs_clb n (fs_sw2 E (fs_xb E).2.1 (fs_xb E).2.2)).2).1 = x1 + 1 + (fs_clb n (fs_sw2 E (fs_xb E).2.1 (fs_xb E).2.2)).1 from by show x1 + ((fs_clb n (fs_sw2 E (fs_xb E).2.1 (fs_xb E).2.2)).1 + 1) = _; omega] at this
        exact this
def fs_FLn (o k : Int) : Prop := fs_FLm o k ∨ fs_FK o k ∨ (o = 226 ∧ k = 0)
theorem om_climb {E M : fs_M} {K : fs_K} {len : Int} (hB : fs_bE E) (hT : fs_rt E) (hp : fs_rp E 31 0) (hz : fs_rz E 31 0) (hE : fs_envM E M) (hl : M 226 38 = len) (l0 : 0 ≤ len) (l1 : len ≤ 20)
    (h0 : (fs_clb 595 E).1 = 0 → ∀ M', fs_out fs_FYt M M' → K (some (fs_i 0)) M')
    (h1 : (fs_clb 595 E).1 ≠ 0 → ∀ M', fs_out fs_FLn M M' → fs_envM (fs_clb 595 E).2 M' → M' 226 38 = fs_pL len + 1 → fs_mcp M' (2 + fs_pL len) M 0 → (∀ j, 0 ≤ j → j < fs_pL len → fs_mcp M' (2 + j) M (2 + (j + fs_pS len))) → K (some (fs_i (fs_clb 595 E).1)) M') : fs_C2 g m_Mo_climb 11 [fs_r 226] M K := by
  have vb := fs_vGain_b hB
  refine E_Mo_climb (L_Mo_climb_7 (sp_layExchange hB hT hp hz (fs_envM0 hE) (fun z M2 o2 => ⟨0, rfl, fun _ => ?_, fun w => absurd rfl w⟩) (fun z M2 o2 e1 e2 e3 => ⟨1, rfl, fun w => absurd w (by decide), fun _ => ⟨fun w => absurd rfl w, fun _ => ?_⟩⟩)))
  · exact h0 (by rw [fs_clb_z z]) M2 (fs_outt.tr (o2.wk (fun _ _ q => Or.inl q)))
  · obtain ⟨a1, a2, a3, a4, a5, a6, p, q⟩ := fs_xb_ok hB.2.2.2.1 hp hz z
    have env' : fs_env E (fs_sw2 E (fs_xb E).2.1 (fs_xb E).2.2) := fs_sw2_env a2 a3 a4 a5
    have E2 := fs_FY_M (fs_envM0 hE) o2
    have e38 : M2 226 38 = len := by
      rw [o2 226 38 (by unfold fs_FY fs_F9 fs_F6 fs_F8 fs_F4; omega), fs_st_k (by decide)]
      exact hl
    refine sp_keepNow e38 l0 l1 (fun M3 o3 f1 f2 f3 => ⟨rfl, L_Mo_climb_22 ?_⟩)
    have m3 : ∀ o k, fs_eC o ∨ fs_mlc 0 o k → M3 o k = E o k := fun o k q => by
      rw [o3 o k (by unfold fs_FK; unfold fs_eC fs_mlc at q; omega)]
      exact E2 o k q
    have bL : 0 ≤ fs_pL len := by
      unfold fs_pL
      split <;> omega
    rw [o3 226 59 (by unfold fs_FK; omega), o3 226 60 (by unfold fs_FK; omega), e2, e3, m3 241 _ (Or.inr (by unfold fs_mlc; omega)), m3 241 _ (Or.inr (by unfold fs_mlc; omega))]
    refine ⟨a2, by omega, a4, by omega, ?_⟩
    have mo : ∀ o k, o ≠ 241 → fs_st (fs_st M3 241 (fs_xb E).2.1 (E 241 (fs_xb E).2.2)) 241 (fs_xb E).2.2 (E 241 (fs_xb E).2.1) o k = M3 o k := fun o k q => by rw [fs_st_o q, fs_st_o q]
    have mr : ∀ k, fs_st (fs_st M3 241 (fs_xb E).2.1 (E 241 (fs_xb E).2.2)) 241 (fs_xb E).2.2 (E 241 (fs_xb E).2.1) 241 k = if k = (fs_xb E).2.2 then E 241 (fs_xb E).2.1 else if k = (fs_xb E).2.1 then E 241 (fs_xb E).2.2 else M3 241 k := fun k => by
      unfold fs_st
      simp
    rw [fs_w32_of (by decide) (by decide)]
    refine lp_moclimb (M0 := M3) 594 (fs_sw2 E (fs_xb E).2.1 (fs_xb E).2.2) _ (0 + 1) (env'.bE hB) (env'.rt hT) p q (fun o k q => ?_) (by omega) (by decide) (by omega) (fs_out.st (fs_out.st fs_out.rf ?_) ?_) (fun M' o' hE' => ?_)
    · by_cases c : o = 241
      · rw [c, mr]
        unfold fs_sw2
        rw [if_pos rfl, m3 241 k (by rw [c] at q; exact q)]
      · rw [mo o k c, m3 o k q, fs_sw2_o a2 a3 a4 a5 (by unfold fs_eC fs_mlc at q; omega) c]
    · exact Or.inr ⟨rfl, a2, a3⟩
    · exact Or.inr ⟨rfl, a4, a5⟩
    · have c0 := (fs_clb_inv 594 _ (by rw [fs_sw2_o a2 a3 a4 a5 (by decide) (by decide)]; exact hB.2.2.2.1) p q).2.2.1
      have es := fs_clb_s (n := 594) z
      rw [show (594 : Nat) + 1 = 595 from rfl] at es
      have es1 : (fs_clb 595 E).1 = (fs_clb 594 (fs_sw2 E (fs_xb E).2.1 (fs_xb E).2.2)).1 + 1 := by rw [es]
      have es2 : (fs_clb 595 E).2 = (fs_clb 594 (fs_sw2 E (fs_xb E).2.1 (fs_xb E).2.2)).2 := by rw [es]
      have cc : ∀ c, 2 ≤ c → c < 22 → fs_mcp M' c M3 c := fun c hc hc2 => by
        have w : ∀ o k, 241 ≤ o → o ≤ 244 → (o = 241 → 27 ≤ k) → M' o k = M3 o k := fun o k q1 q2 q3 => o' o k (by unfold fs_FLm fs_FY fs_F9 fs_F6 fs_F8 fs_F4; omega)
        exact ⟨w _ _ (by decide) (by decide) (by omega), w _ _ (by decide) (by decide) (by omega), fun d d0 d1 => w _ _ (by decide) (by decide) (by omega), fun k k0 k1 => w _ _ (by decide) (by decide) (by omega)⟩
      have bL2 : fs_pL len < 20 := by
        unfold fs_pL
        split <;> omega
      have c2M : ∀ c, fs_mcp M2 c M c := fun c => by
        have w : ∀ o k, 241 ≤ o → o ≤ 244 → M2 o k = M o k := fun o k q1 q2 => by
          rw [o2 o k (by unfold fs_FY fs_F9 fs_F6 fs_F8 fs_F4; omega), fs_st_o (by omega)]
        exact fs_mcp_o (M := M) (fun o k a b => w o k a b)
      have h := h1 (by rw [es1]; omega) M' ?_ ?_ ?_ ((cc _ (by omega) (by omega)).tr (f2.tr (c2M _))) (fun j j0 j1 => (cc _ (by omega) (by omega)).tr ((f3 j j0 j1).tr (c2M _)))
      · rw [es1] at h
        rw [show (0 : Int) + 1 + (fs_clb 594 (fs_sw2 E (fs_xb E).2.1 (fs_xb E).2.2)).1 = (fs_clb 594 (fs_sw2 E (fs_xb E).2.1 (fs_xb E).2.2)).1 + 1 by omega]
        exact h
      · have ot : fs_out fs_FLn M (fs_st M 226 0 0) := fs_out.st fs_out.rf (Or.inr (Or.inr ⟨rfl, rfl⟩))
        exact ((ot.tr (o2.wk (fun _ _ q => Or.inl (Or.inl q)))).tr (o3.wk (fun _ _ q => Or.inr (Or.inl q)))).tr (o'.wk (fun _ _ q => Or.inl q))
      · rw [es2]
        exact hE'
      · rw [o' 226 38 (by unfold fs_FLm fs_FY fs_F9 fs_F6 fs_F8 fs_F4; omega)]
        exact f1
end CLIMB
