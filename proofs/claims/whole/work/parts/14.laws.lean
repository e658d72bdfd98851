-- ===== the laws: what working one out is; the class's Laws does it =====
def fs_out (F : Int → Int → Prop) (M M' : fs_M) : Prop := ∀ o k, ¬ F o k → M' o k = M o k
theorem fs_out.rf {F : Int → Int → Prop} {M : fs_M} : fs_out F M M := fun _ _ _ => rfl
theorem fs_out.tr {F : Int → Int → Prop} {M M1 M2 : fs_M} (h1 : fs_out F M M1) (h2 : fs_out F M1 M2) : fs_out F M M2 := fun o k q => (h2 o k q).trans (h1 o k q)
theorem fs_out.wk {F G : Int → Int → Prop} {M M1 : fs_M} (h1 : fs_out F M M1) (h : ∀ o k, F o k → G o k) : fs_out G M M1 := fun o k q => h1 o k (fun z => q (h o k z))
theorem fs_out.st {F : Int → Int → Prop} {M M1 : fs_M} (h1 : fs_out F M M1) {o k v : Int} (hF : F o k) : fs_out F M (fs_st M1 o k v) := by
  intro a b q
  rw [← h1 a b q]
  unfold fs_st
  by_cases e1 : a = o
  · by_cases e2 : b = k
    · subst e1; subst e2; exact absurd hF q
    · rw [if_pos e1, if_neg e2]
  · rw [if_neg e1]
def fs_chk (v : Int) : Option Int := if v ≤ 1000000000000 ∧ -1000000000000 ≤ v then some v else none
def fs_b2i (p : Prop) [Decidable p] : Int := if p then 1 else 0
def fs_op (s x y : Int) : Option Int :=
  if s = 43 then fs_chk (x + y) else if s = 45 then fs_chk (x - y) else if s = 42 then fs_chk (x * y)
  else if s = 47 then (if y = 0 then none else fs_chk (Int.tdiv x y))
  else if s = 60 then some (if x < y then 1 else 0) else if s = 62 then some (if y < x then 1 else 0) else if s = 61 then some (if x = y then 1 else 0)
  else if s = 256 then some (if x ≤ y then 1 else 0) else if s = 258 then some (if y ≤ x then 1 else 0) else if s = 257 then some (if x = y then 0 else 1)
  else if s = 261 then some (if x = 0 then 0 else if y = 0 then 0 else 1) else some (if x = 0 then (if y = 0 then 0 else 1) else 1)
def fs_lim (v : Int) : Prop := v ≤ 1000000000000 ∧ -1000000000000 ≤ v
theorem fs_chk_lim {v w : Int} (h : fs_chk v = some w) : w = v ∧ fs_lim w := by
  unfold fs_chk at h
  split at h
  · cases h; exact ⟨rfl, by assumption⟩
  · cases h
theorem fs_op_lim {s x y v : Int} (h : fs_op s x y = some v) : fs_lim v := by
  have fin : ∀ {p : Prop} [Decidable p] {a b : Int}, fs_lim a → fs_lim b → some (if p then a else b) = some v → fs_lim v := by
    intro p _ a b ha hb q
    have q2 := Option.some.inj q
    rw [← q2]
    split
    · exact ha
    · exact hb
  have l0 : fs_lim 0 := by unfold fs_lim; omega
  have l1 : fs_lim 1 := by unfold fs_lim; omega
  unfold fs_op at h
  by_cases c : s = 43
  · rw [if_pos c] at h; exact (fs_chk_lim h).2
  rw [if_neg c] at h; clear c
  by_cases c : s = 45
  · rw [if_pos c] at h; exact (fs_chk_lim h).2
  rw [if_neg c] at h; clear c
  by_cases c : s = 42
  · rw [if_pos c] at h; exact (fs_chk_lim h).2
  rw [if_neg c] at h; clear c
  by_cases c : s = 47
  · rw [if_pos c] at h
    by_cases c2 : y = 0
    · rw [if_pos c2] at h; cases h
    · rw [if_neg c2] at h; exact (fs_chk_lim h).2
  rw [if_neg c] at h; clear c
  by_cases c : s = 60
  · rw [if_pos c] at h; exact fin l1 l0 h
  rw [if_neg c] at h; clear c
  by_cases c : s = 62
  · rw [if_pos c] at h; exact fin l1 l0 h
  rw [if_neg c] at h; clear c
  by_cases c : s = 61
  · rw [if_pos c] at h; exact fin l1 l0 h
  rw [if_neg c] at h; clear c
  by_cases c : s = 256
  · rw [if_pos c] at h; exact fin l1 l0 h
  rw [if_neg c] at h; clear c
  by_cases c : s = 258
  · rw [if_pos c] at h; exact fin l1 l0 h
  rw [if_neg c] at h; clear c
  by_cases c : s = 257
  · rw [if_pos c] at h; exact fin l0 l1 h
  rw [if_neg c] at h; clear c
  by_cases c : s = 261
  · rw [if_pos c] at h
    refine fin l0 ?_ h
    split
    · exact l0
    · exact l1
  rw [if_neg c] at h; clear c
  refine fin ?_ l1 h
  split
  · exact l0
  · exact l1
def fs_sgn (t : Int) : Int := if t = 1018 then 262 else if t = 1019 then 261 else if t = 1020 then 260 else if t = 1021 then 60 else if t = 1022 then 256 else if t = 1023 then 61 else if t = 1024 then 257 else if t = 1025 then 258 else if t = 1026 then 62 else if t = 1027 then 43 else if t = 1028 then 45 else if t = 1029 then 42 else 47
def fs_srt (t : Int) : Int := if t = 1017 then 0 else if t ≤ 1016 then 1 else 2
def fs_val (t n : Int) : Int := if t = 1017 then n else if t ≤ 1016 then t - 1010 else fs_sgn t
def fs_ct (t : Int) : Prop := 1010 ≤ t ∧ t ≤ 1030
theorem fs_ct_tk {t : Int} (h : fs_ct t) : fs_tk t := ⟨by have := h.1; omega, by have := h.2; omega⟩
theorem fs_lev_val {t : Int} (h : fs_ct t) : fs_lev t = 6 ↔ t ≤ 1017 := by
  obtain ⟨a, b⟩ := h
  rcases (by omega : t = 1010 ∨ t = 1011 ∨ t = 1012 ∨ t = 1013 ∨ t = 1014 ∨ t = 1015 ∨ t = 1016 ∨ t = 1017 ∨ t = 1018 ∨ t = 1019 ∨ t = 1020 ∨ t = 1021 ∨ t = 1022 ∨ t = 1023 ∨ t = 1024 ∨ t = 1025 ∨ t = 1026 ∨ t = 1027 ∨ t = 1028 ∨ t = 1029 ∨ t = 1030) with rfl | rfl | rfl | rfl | rfl | rfl | rfl | rfl | rfl | rfl | rfl | rfl | rfl | rfl | rfl | rfl | rfl | rfl | rfl | rfl | rfl <;> decide +kernel
/-- the stack machine of a law: n signs from place i on; the stack s of height h -/
def fs_ev (cs cv nm : Int → Int) : Nat → Int → (Int → Int) → Int → Option ((Int → Int) × Int)
  | 0, _, s, h => some (s, h)
  | n + 1, i, s, h =>
    if cs i = 2 then
      if cv i = 260 then fs_ev cs cv nm n (i + 1) (fun j => if j = h - 1 then (if s (h - 1) = 0 then 1 else 0) else s j) h
      else match fs_op (cv i) (s (h - 2)) (s (h - 1)) with
        | none => none
        | some v => fs_ev cs cv nm n (i + 1) (fun j => if j = h - 2 then v else s j) (h - 1)
    else fs_ev cs cv nm n (i + 1) (fun j => if j = h then (if cs i = 0 then cv i else nm (cv i)) else s j) (h + 1)
/-- .. it never wants what isn't there, and ends with one thing -/
def fs_wf (cs cv : Int → Int) : Nat → Int → Int → Prop
  | 0, _, h => h = 1
  | n + 1, i, h =>
    if cs i = 2 then
      if cv i = 260 then 1 ≤ h ∧ fs_wf cs cv n (i + 1) h else 2 ≤ h ∧ fs_wf cs cv n (i + 1) (h - 1)
    else fs_wf cs cv n (i + 1) (h + 1)
def fs_res (cs cv nm : Int → Int) (a b : Int) : Option Int := if a < b then (match fs_ev cs cv nm (b - a).toNat a (fun _ => 0) 0 with | none => none | some q => some (q.1 0)) else none
/-- only what lies in the stack counts -/
theorem fs_ev_ext {cs cv nm : Int → Int} : ∀ (n : Nat) (i h : Int) (s t : Int → Int), fs_wf cs cv n i h → 0 ≤ h → (∀ j, 0 ≤ j → j < h → s j = t j) →
    (fs_ev cs cv nm n i s h = none ∧ fs_ev cs cv nm n i t h = none) ∨ ∃ q q2, fs_ev cs cv nm n i s h = some q ∧ fs_ev cs cv nm n i t h = some q2 ∧ q.2 = 1 ∧ q2.2 = 1 ∧ q.1 0 = q2.1 0
  | 0, i, h, s, t, hw, h0, hj => by
    unfold fs_wf at hw
    exact Or.inr ⟨_, _, rfl, rfl, hw, hw, hj 0 (by omega) (by omega)⟩
  | n + 1, i, h, s, t, hw, h0, hj => by
    unfold fs_wf at hw
    unfold fs_ev
    by_cases c1 : cs i = 2
    · rw [if_pos c1] at hw
      rw [if_pos c1, if_pos c1]
      by_cases c2 : cv i = 260
      · rw [if_pos c2] at hw
        rw [if_pos c2, if_pos c2]
        refine fs_ev_ext n (i + 1) h _ _ hw.2 h0 (fun j a b => ?_)
        have := hj (h - 1) (by omega) (by omega)
        simp only [this]
        split
        · rfl
        · exact hj j a b
      · rw [if_neg c2] at hw
        rw [if_neg c2, if_neg c2, hj (h - 2) (by omega) (by omega), hj (h - 1) (by omega) (by omega)]
        cases fs_op (cv i) (t (h - 2)) (t (h - 1)) with
        | none => exact Or.inl ⟨rfl, rfl⟩
        | some v =>
          refine fs_ev_ext n (i + 1) (h - 1) _ _ hw.2 (by omega) (fun j a b => ?_)
          split
          · rfl
          · exact hj j a (by omega)
    · rw [if_neg c1] at hw
      rw [if_neg c1, if_neg c1]
      refine fs_ev_ext n (i + 1) (h + 1) _ _ hw (by omega) (fun j a b => ?_)
      split
      · rfl
      · exact hj j a (by omega)
def fs_nmC (M : fs_M) (j : Int) : Int := if j = 0 then M 9 7 else if j = 1 then M 9 10 else if j = 2 then M 9 9 else if j = 3 then M 9 8 else if j = 4 then M 9 11 else if j = 5 then M 9 12 else M 9 13
def fs_csC (M : fs_M) (i : Int) : Int := fs_srt (M 10 i)
def fs_cvC (M : fs_M) (i : Int) : Int := fs_val (M 10 i) (M 11 i)
section LAWS
variable {g : fs_G}
theorem sp_valueOf {M : fs_M} {K : fs_K} {t n : Int} (h1 : fs_ct t) (h2 : t ≤ 1017) (h : K (some (fs_i (if fs_srt t = 0 then fs_val t n else fs_nmC M (fs_val t n)))) M) : fs_C2 g m_Laws_valueOf 2 [fs_r 9, fs_r t, fs_i n] M K := by
  refine E_Laws_valueOf io_9 (fs_ct_tk h1) ?_
  obtain ⟨a, b⟩ := h1
  rcases (by omega : t = 1010 ∨ t = 1011 ∨ t = 1012 ∨ t = 1013 ∨ t = 1014 ∨ t = 1015 ∨ t = 1016 ∨ t = 1017) with rfl | rfl | rfl | rfl | rfl | rfl | rfl | rfl
  · have e : fs_sm (fs_ord 1010) = 5 := by decide +kernel
    simpa [e, fs_nmC, fs_srt, fs_val] using h
  · have e : fs_sm (fs_ord 1011) = 6 := by decide +kernel
    simpa [e, fs_nmC, fs_srt, fs_val] using h
  · have e : fs_sm (fs_ord 1012) = 7 := by decide +kernel
    simpa [e, fs_nmC, fs_srt, fs_val] using h
  · have e : fs_sm (fs_ord 1013) = 8 := by decide +kernel
    simpa [e, fs_nmC, fs_srt, fs_val] using h
  · have e : fs_sm (fs_ord 1014) = 9 := by decide +kernel
    simpa [e, fs_nmC, fs_srt, fs_val] using h
  · have e : fs_sm (fs_ord 1015) = 10 := by decide +kernel
    simpa [e, fs_nmC, fs_srt, fs_val] using h
  · have e : fs_sm (fs_ord 1016) = 11 := by decide +kernel
    simpa [e, fs_nmC, fs_srt, fs_val] using h
  · have e : fs_sm (fs_ord 1017) = 0 := by decide +kernel
    simpa [e, fs_nmC, fs_srt, fs_val] using h
theorem sp_j327 {M : fs_M} {K : fs_K} (h1 : fs_lim (M 9 6) → K (some (fs_i 1)) M) (h0 : ¬ fs_lim (M 9 6) → K (some (fs_i 0)) M) : fs_A2 g m_Laws_isJoined 2 327 [(0, fs_r 9)] [] M K := by
  refine L_Laws_isJoined_327 io_9 ⟨fun q => ?_, fun q => ⟨fun q2 => ?_, fun q2 => ?_⟩⟩
  · rw [fs_lcmp_gt] at q
    exact h0 (fun z => by unfold fs_lim at z; omega)
  · rw [fs_lcmp_lt] at q2
    exact h0 (fun z => by unfold fs_lim at z; omega)
  · rw [fs_lcmp_gt] at q
    rw [fs_lcmp_lt] at q2
    exact h1 (by unfold fs_lim; omega)
theorem fs_ldiv_eq {x y : Int} (hx : fs_lim x) (hy : fs_in64 y) (hne : ¬ y = 0) : fs_ldiv x y = Int.tdiv x y ∧ fs_lim (Int.tdiv x y) := by
  unfold fs_lim fs_in64 at *
  have hx2 : fs_in64 x := by unfold fs_in64; omega
  have h1 : (Int.tdiv x y).natAbs ≤ x.natAbs := by
    rw [Int.natAbs_tdiv]
    exact Nat.div_le_self _ _
  refine ⟨?_, by omega⟩
  unfold fs_ldiv
  rw [Int64.toInt_div_of_ne_left]
  · rw [fs_toL hx2, fs_toL (by unfold fs_in64; omega)]
  · intro q
    have := congrArg Int64.toInt q
    rw [fs_toL hx2] at this
    have e : Int64.minValue.toInt = -9223372036854775808 := by decide
    rw [e] at this
    omega
theorem sp_isJoined {M : fs_M} {K : fs_K} {t x y : Int} (h1 : fs_ct t) (h2 : 1018 ≤ t) (h3 : t ≠ 1020) (hx : fs_lim x) (hy : fs_lim y)
    (hK : ∀ r M', (r = 1 ∧ ∃ v, fs_op (fs_sgn t) x y = some v ∧ M' = fs_st M 9 6 v) ∨ (r = 0 ∧ fs_op (fs_sgn t) x y = none ∧ (M' = M ∨ ∃ v, M' = fs_st M 9 6 v)) → K (some (fs_i r)) M') : fs_C2 g m_Laws_isJoined 2 [fs_r 9, fs_r t, fs_l x, fs_l y] M K := by
  refine E_Laws_isJoined io_9 (fs_ct_tk h1) ?_
  have chk : ∀ v : Int, fs_op (fs_sgn t) x y = fs_chk v → fs_A2 g m_Laws_isJoined 2 327 [(0, fs_r 9)] [] (fs_st M 9 6 v) K := by
    intro v hv
    refine sp_j327 (fun q => ?_) (fun q => ?_)
    · rw [fs_st_s] at q
      exact hK _ _ (Or.inl ⟨rfl, v, by rw [hv]; unfold fs_chk; exact if_pos q, rfl⟩)
    · rw [fs_st_s] at q
      exact hK _ _ (Or.inr ⟨rfl, by rw [hv]; unfold fs_chk; exact if_neg q, Or.inr ⟨v, rfl⟩⟩)
  have yes : ∀ v : Int, fs_op (fs_sgn t) x y = some v → K (some (fs_i 1)) (fs_st M 9 6 v) := fun v hv => hK _ _ (Or.inl ⟨rfl, v, hv, rfl⟩)
  have no : fs_op (fs_sgn t) x y = none → K (some (fs_i 0)) M := fun hv => hK _ _ (Or.inr ⟨rfl, hv, Or.inl rfl⟩)
  obtain ⟨a, b⟩ := h1
  have hxx := hx
  have hyy := hy
  unfold fs_lim at hxx hyy
  rcases (by omega : t = 1018 ∨ t = 1019 ∨ t = 1021 ∨ t = 1022 ∨ t = 1023 ∨ t = 1024 ∨ t = 1025 ∨ t = 1026 ∨ t = 1027 ∨ t = 1028 ∨ t = 1029 ∨ t = 1030) with rfl | rfl | rfl | rfl | rfl | rfl | rfl | rfl | rfl | rfl | rfl | rfl
  · have e : fs_sm (fs_ord 1018) = 12 := by decide +kernel
    simp only [e, fs_lcmp_z]
    simp only [show fs_sgn 1018 = 262 by decide +kernel, show ∀ x y, fs_op 262 x y = some (if x = 0 then (if y = 0 then 0 else 1) else 1) from fun _ _ => rfl] at yes
    refine ⟨fun _ => ⟨fun q => yes 1 (by rw [if_neg q]), fun q => ⟨fun q2 => yes 0 (by rw [if_pos q, if_pos q2]), fun q2 => yes 1 (by rw [if_pos q, if_neg q2])⟩⟩, ?_⟩
    simp
  · have e : fs_sm (fs_ord 1019) = 13 := by decide +kernel
    simp only [e, fs_lcmp_z]
    simp only [show fs_sgn 1019 = 261 by decide +kernel, show ∀ x y, fs_op 261 x y = some (if x = 0 then 0 else if y = 0 then 0 else 1) from fun _ _ => rfl] at yes
    refine ⟨by simp, fun _ => ⟨fun q => yes 0 (by rw [if_pos q]), fun q => ⟨fun q2 => yes 0 (by rw [if_neg q, if_pos q2]), fun q2 => yes 1 (by rw [if_neg q, if_neg q2])⟩⟩, ?_⟩
    simp
  · have e : fs_sm (fs_ord 1021) = 14 := by decide +kernel
    simp only [e, fs_lcmp_ge]
    simp only [show fs_sgn 1021 = 60 by decide +kernel, show ∀ x y, fs_op 60 x y = some (if x < y then 1 else 0) from fun _ _ => rfl] at yes
    refine ⟨by simp, by simp, fun _ => ⟨fun q => yes 0 (by rw [if_neg (by omega)]), fun q => yes 1 (by rw [if_pos (by omega)])⟩, ?_⟩
    simp
  · have e : fs_sm (fs_ord 1022) = 15 := by decide +kernel
    simp only [e, fs_lcmp_gt]
    simp only [show fs_sgn 1022 = 256 by decide +kernel, show ∀ x y, fs_op 256 x y = some (if x ≤ y then 1 else 0) from fun _ _ => rfl] at yes
    refine ⟨by simp, by simp, by simp, fun _ => ⟨fun q => yes 0 (by rw [if_neg (by omega)]), fun q => yes 1 (by rw [if_pos (by omega)])⟩, ?_⟩
    simp
  · have e : fs_sm (fs_ord 1023) = 16 := by decide +kernel
    simp only [e, fs_lcmp_z]
    simp only [show fs_sgn 1023 = 61 by decide +kernel, show ∀ x y, fs_op 61 x y = some (if x = y then 1 else 0) from fun _ _ => rfl] at yes
    refine ⟨by simp, by simp, by simp, by simp, fun _ => ⟨fun q => yes 0 (by rw [if_neg q]), fun q => yes 1 (by rw [if_pos q])⟩, ?_⟩
    simp
  · have e : fs_sm (fs_ord 1024) = 17 := by decide +kernel
    simp only [e, fs_lcmp_z]
    simp only [show fs_sgn 1024 = 257 by decide +kernel, show ∀ x y, fs_op 257 x y = some (if x = y then 0 else 1) from fun _ _ => rfl] at yes
    refine ⟨by simp, by simp, by simp, by simp, by simp, fun _ => ⟨fun q => yes 0 (by rw [if_pos q]), fun q => yes 1 (by rw [if_neg q])⟩, ?_⟩
    simp
  · have e : fs_sm (fs_ord 1025) = 18 := by decide +kernel
    simp only [e, fs_lcmp_lt]
    simp only [show fs_sgn 1025 = 258 by decide +kernel, show ∀ x y, fs_op 258 x y = some (if y ≤ x then 1 else 0) from fun _ _ => rfl] at yes
    refine ⟨by simp, by simp, by simp, by simp, by simp, by simp, fun _ => ⟨fun q => yes 0 (by rw [if_neg (by omega)]), fun q => yes 1 (by rw [if_pos (by omega)])⟩, ?_⟩
    simp
  · have e : fs_sm (fs_ord 1026) = 19 := by decide +kernel
    simp only [e, fs_lcmp_le]
    simp only [show fs_sgn 1026 = 62 by decide +kernel, show ∀ x y, fs_op 62 x y = some (if y < x then 1 else 0) from fun _ _ => rfl] at yes
    refine ⟨by simp, by simp, by simp, by simp, by simp, by simp, by simp, fun _ => ⟨fun q => yes 0 (by rw [if_neg (by omega)]), fun q => yes 1 (by rw [if_pos (by omega)])⟩, ?_⟩
    simp
  · have e : fs_sm (fs_ord 1027) = 20 := by decide +kernel
    simp only [e]
    have h := chk (x + y) rfl
    rw [← fs_w64_of (x := x + y) (by omega) (by omega)] at h
    simpa using h
  · have e : fs_sm (fs_ord 1028) = 21 := by decide +kernel
    simp only [e]
    have h := chk (x - y) rfl
    rw [← fs_w64_of (x := x - y) (by omega) (by omega)] at h
    simpa using h
  · have e : fs_sm (fs_ord 1029) = 22 := by decide +kernel
    simp only [e, fs_lcmp_z, fs_lcmp_ge]
    have small : x.natAbs ≤ 1000000000000 := by omega
    -- the product is asked ahead
    have key : ∀ ax ay : Int, ax = (x.natAbs : Int) → ay = (y.natAbs : Int) → ¬ y = 0 → fs_A2 g m_Laws_isJoined 2 287 [(0, fs_r 9), (2, fs_l x), (4, fs_l y)] [fs_l ay, fs_l 1000000000000, fs_l ax] M K := by
      intro ax ay hax hay hy0
      have hay0 : 0 < ay := by omega
      obtain ⟨d1, d2⟩ := fs_ldiv_eq (x := 1000000000000) (y := ay) (by unfold fs_lim; omega) (by unfold fs_in64; omega) (by omega)
      have hdiv : Int.tdiv 1000000000000 ay = 1000000000000 / ay := Int.tdiv_eq_ediv_of_nonneg (by omega)
      have hiff : ax ≤ 1000000000000 / ay ↔ ax * ay ≤ 1000000000000 := Int.le_ediv_iff_mul_le hay0
      have habs : ax * ay = ((x * y).natAbs : Int) := by rw [hax, hay, Int.natAbs_mul]; simp
      refine L_Laws_isJoined_287 io_9 ⟨by omega, fun q => ?_, fun q => ?_⟩
      · rw [fs_lcmp_le, d1, hdiv, hiff, habs] at q
        rw [fs_w64_of (by omega) (by omega)]
        exact chk (x * y) rfl
      · rw [fs_lcmp_le, d1, hdiv, hiff, habs] at q
        refine no ?_
        show fs_chk (x * y) = none
        unfold fs_chk
        exact if_neg (by omega)
    have k2 : ∀ ax : Int, ax = (x.natAbs : Int) → ¬ y = 0 → fs_A2 g m_Laws_isJoined 2 269 [(0, fs_r 9), (2, fs_l x), (4, fs_l y)] [fs_l ax] M K := by
      intro ax hax hy0
      refine L_Laws_isJoined_269 io_9 ⟨fun q => ?_, fun q => ?_⟩
      · rw [fs_lcmp_ge] at q
        exact key ax y hax (by omega) hy0
      · rw [fs_lcmp_ge] at q
        rw [fs_w64_of (by omega) (by omega)]
        exact key ax (-y) hax (by omega) hy0
    refine ⟨by simp, by simp, by simp, by simp, by simp, by simp, by simp, by simp, by simp, by simp, fun _ => ⟨fun q => ?_, fun q => ⟨fun q2 => ?_, fun q2 => ?_⟩⟩, ?_⟩
    · subst q
      have h := chk (x * 0) rfl
      rw [Int.mul_zero] at h ⊢
      rw [fs_w64_of (by omega) (by omega)]
      exact h
    · exact k2 x (by omega) q
    · rw [fs_w64_of (by omega) (by omega)]
      exact k2 (-x) (by omega) q
    · simp
  · have e : fs_sm (fs_ord 1030) = 23 := by decide +kernel
    simp only [e, fs_lcmp_z]
    refine ⟨by simp, by simp, by simp, by simp, by simp, by simp, by simp, by simp, by simp, by simp, by simp, fun _ => ⟨fun q => ⟨q, ?_⟩, fun q => ?_⟩, ?_⟩
    · obtain ⟨d1, d2⟩ := fs_ldiv_eq hx (show fs_in64 y by unfold fs_in64; omega) q
      rw [d1]
      refine chk (Int.tdiv x y) ?_
      show (if y = 0 then none else fs_chk (Int.tdiv x y)) = _
      exact if_neg q
    · refine no ?_
      show (if y = 0 then none else fs_chk (Int.tdiv x y)) = _
      exact if_pos q
    · simp
end LAWS
