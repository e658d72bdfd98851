-- ===== walk, stay, may, cat: what they are; the class's Laws has them =====
def fs_F2 (o k : Int) : Prop := o = 14 ∨ (o = 9 ∧ 6 ≤ k ∧ k ≤ 13)
def fs_nm (far glass minute up left worth home : Int) (j : Int) : Int := if j = 0 then far else if j = 1 then glass else if j = 2 then minute else if j = 3 then up else if j = 4 then left else if j = 5 then worth else home
def fs_law (M : fs_M) (k : Int) (nm : Int → Int) : Option Int := fs_res (fs_csC M) (fs_cvC M) nm (M 12 k) (M 13 k)
def fs_put (v : Option Int) (most without : Int) : Int := match v with
  | none => without
  | some w => max 0 (min w most)
def fs_walk (M : fs_M) (way minute glass left worth : Int) : Int := fs_put (fs_law M 0 (fs_nm (way.natAbs : Int) glass minute (if way ≤ 0 then 0 else 1) left worth 0)) 240 (way.natAbs : Int)
def fs_stay (M : fs_M) (minute glass left worth : Int) : Int := fs_put (fs_law M 1 (fs_nm 0 glass minute 0 left worth 0)) 60 2
def fs_may (M : fs_M) (minute glass left worth home : Int) : Int := if M 12 2 < M 13 2 then (match fs_law M 2 (fs_nm 0 glass minute 0 left worth home) with | none => 0 | some v => if v ≤ 0 then 0 else 1) else 1
def fs_cat (M : fs_M) (minute worth : Int) : Int := fs_put (fs_law M 3 (fs_nm 0 0 minute 0 0 worth 0)) 1000 0
theorem fs_put_in {v : Option Int} {most without : Int} (h0 : 0 ≤ most) (h1 : 0 ≤ without) : 0 ≤ fs_put v most without ∧ (fs_put v most without ≤ most ∨ fs_put v most without = without) := by
  cases v with
  | none => exact ⟨h1, Or.inr rfl⟩
  | some w =>
    show 0 ≤ max 0 (min w most) ∧ (max 0 (min w most) ≤ most ∨ _)
    exact ⟨by omega, Or.inl (by omega)⟩
theorem fs_may01 (M : fs_M) (minute glass left worth home : Int) : fs_may M minute glass left worth home = 0 ∨ fs_may M minute glass left worth home = 1 := by
  unfold fs_may
  split
  · split
    · exact Or.inl rfl
    · split
      · exact Or.inl rfl
      · exact Or.inr rfl
  · exact Or.inr rfl
theorem fs_law_cong {M M' : fs_M} (h : ∀ o k, 10 ≤ o → o ≤ 13 → M' o k = M o k) : (∀ k nm, fs_law M' k nm = fs_law M k nm) ∧ (∀ k, fs_lawC M k → fs_lawC M' k) := by
  have e1 : fs_csC M' = fs_csC M := by
    funext i
    unfold fs_csC
    rw [h 10 i (by decide) (by decide)]
  have e2 : fs_cvC M' = fs_cvC M := by
    funext i
    unfold fs_cvC
    rw [h 10 i (by decide) (by decide), h 11 i (by decide) (by decide)]
  refine ⟨fun k nm => ?_, fun k hk => ?_⟩
  · unfold fs_law
    rw [e1, e2, h 12 k (by decide) (by decide), h 13 k (by decide) (by decide)]
  · unfold fs_lawC at hk ⊢
    rw [e1, e2, h 12 k (by decide) (by decide), h 13 k (by decide) (by decide)]
    obtain ⟨a, b, c, d, e⟩ := hk
    refine ⟨a, b, c, fun i q1 q2 => ?_, e⟩
    rw [h 10 i (by decide) (by decide), h 11 i (by decide) (by decide)]
    exact d i q1 q2
theorem fs_F2_10 {M M' : fs_M} (h : fs_out fs_F2 M M') : ∀ o k, 10 ≤ o → o ≤ 13 → M' o k = M o k := fun o k a b => h o k (by unfold fs_F2; omega)
theorem fs_F1_F2 {o k : Int} (h : fs_F1 o k) : fs_F2 o k := by
  unfold fs_F1 at h
  unfold fs_F2
  omega
section LAWOPS
variable {g : fs_G}
theorem sp_within {M : fs_M} {K : fs_K} {most : Int} (h0 : 0 ≤ most) (h1 : most ≤ 1000) (h : K (some (fs_i (max 0 (min (M 9 6) most)))) M) : fs_C2 g m_Laws_within 2 [fs_r 9, fs_i most] M K := by
  refine E_Laws_within io_9 (sp_minJ ⟨_, rfl, sp_maxJ ⟨_, rfl, ?_⟩⟩)
  rw [fs_w32_of (by omega) (by omega)]
  exact h
/-- names put, a law asked: the number, or what stands without -/
theorem sp_asked {M M3 : fs_M} {K : fs_K} {k : Int} {nm : Int → Int} (hk0 : 0 ≤ k) (hk1 : k < 4) (hL : fs_lawC M k) (hout : fs_out fs_F2 M M3) (hnm : fs_nmC M3 = nm)
    (hK : ∀ M' r, fs_out fs_F2 M M' → fs_out fs_F1 M3 M' → (fs_law M k nm = none ∧ r = 0 ∨ ∃ v, fs_law M k nm = some v ∧ r = 1 ∧ M' 9 6 = v) → K (some (fs_i r)) M') : fs_C2 g m_Laws_isWorkedOut 3 [fs_r 9, fs_i k] M3 K := by
  have hc := fs_law_cong (fs_F2_10 hout)
  refine sp_isWorkedOut hk0 hk1 (hc.2 k hL) (fun M' r ho hr => hK M' r (hout.tr (ho.wk (fun _ _ => fs_F1_F2))) ho ?_)
  have e : fs_resC M3 k = fs_law M k nm := by
    rw [← hc.1 k nm, ← hnm]
    rfl
  rw [e] at hr
  exact hr
theorem fs_nmP {M : fs_M} {minute glass left worth : Int} : fs_nmC (fs_st (fs_st (fs_st (fs_st (fs_st (fs_st (fs_st M 9 9 minute) 9 10 glass) 9 11 left) 9 12 worth) 9 7 0) 9 8 0) 9 13 0) = fs_nm 0 glass minute 0 left worth 0 := by
  funext j
  unfold fs_nmC fs_nm
  simp [fs_st]
theorem fs_outP {M : fs_M} {minute glass left worth : Int} : fs_out fs_F2 M (fs_st (fs_st (fs_st (fs_st (fs_st (fs_st (fs_st M 9 9 minute) 9 10 glass) 9 11 left) 9 12 worth) 9 7 0) 9 8 0) 9 13 0) := by
  refine ((((((fs_out.rf.st ?_).st ?_).st ?_).st ?_).st ?_).st ?_).st ?_ <;> (unfold fs_F2; omega)
theorem sp_walkTime {M : fs_M} {K : fs_K} {way minute glass left worth : Int} (hL : fs_lawC M 0) (hw0 : -1000 ≤ way) (hw1 : way ≤ 1000) (hK : ∀ M', fs_out fs_F2 M M' → K (some (fs_i (fs_walk M way minute glass left worth))) M') :
    fs_C2 g m_Laws_walkTime 4 [fs_r 9, fs_i way, fs_i minute, fs_i glass, fs_i left, fs_i worth] M K := by
  refine E_Laws_walkTime io_9 (E_Laws_putNames io_9 ⟨rfl, sp_absI (by omega) ⟨_, rfl, ?_⟩⟩)
  generalize hM1 : fs_st (fs_st (fs_st (fs_st (fs_st (fs_st (fs_st M 9 9 minute) 9 10 glass) 9 11 left) 9 12 worth) 9 7 0) 9 8 0) 9 13 0 = M1
  have go : ∀ up : Int, up = (if way ≤ 0 then 0 else 1) → fs_A2 g m_Laws_walkTime 4 28 [(0, fs_r 9)] [fs_i up, fs_r 9] (fs_st M1 9 7 (way.natAbs : Int)) K := by
    intro up hup
    subst hup
    refine L_Laws_walkTime_28 io_9 io_9 ?_
    have ho : fs_out fs_F2 M (fs_st (fs_st M1 9 7 (way.natAbs : Int)) 9 8 (if way ≤ 0 then 0 else 1)) := by
      refine fs_out.st (fs_out.st ?_ ?_) ?_
      · rw [← hM1]; exact fs_outP
      · unfold fs_F2; omega
      · unfold fs_F2; omega
    have hn : fs_nmC (fs_st (fs_st M1 9 7 (way.natAbs : Int)) 9 8 (if way ≤ 0 then 0 else 1)) = fs_nm (way.natAbs : Int) glass minute (if way ≤ 0 then 0 else 1) left worth 0 := by
      rw [← hM1]
      funext j
      unfold fs_nmC fs_nm
      simp [fs_st]
    refine sp_asked (by decide) (by decide) hL ho hn (fun M' r ho' h1 hr => ⟨r, rfl, ?_⟩)
    have e7 : M' 9 7 = (way.natAbs : Int) := by
      rw [h1 9 7 (by unfold fs_F1; omega), fs_st_k (by decide), fs_st_s]
    rcases hr with ⟨e, rfl⟩ | ⟨v, e, rfl, hv⟩
    · refine ⟨fun _ => ?_, fun q => absurd rfl q⟩
      have h := hK M' ho'
      unfold fs_walk at h
      rw [e] at h
      rw [e7]
      exact h
    · refine ⟨fun q => absurd q (by decide), fun _ => sp_within (by decide) (by decide) ⟨_, rfl, ?_⟩⟩
      have h := hK M' ho'
      unfold fs_walk at h
      rw [e] at h
      rw [hv]
      exact h
  exact ⟨fun q => go 0 (by rw [if_pos q]), fun q => go 1 (by rw [if_neg q])⟩
theorem sp_stayTime {M : fs_M} {K : fs_K} {minute glass left worth : Int} (hL : fs_lawC M 1) (hK : ∀ M', fs_out fs_F2 M M' → K (some (fs_i (fs_stay M minute glass left worth))) M') :
    fs_C2 g m_Laws_stayTime 4 [fs_r 9, fs_i minute, fs_i glass, fs_i left, fs_i worth] M K := by
  refine E_Laws_stayTime io_9 (E_Laws_putNames io_9 ⟨rfl, ?_⟩)
  refine sp_asked (by decide) (by decide) hL fs_outP fs_nmP (fun M' r ho' h1 hr => ⟨r, rfl, ?_⟩)
  have h := hK M' ho'
  unfold fs_stay at h
  rcases hr with ⟨e, rfl⟩ | ⟨v, e, rfl, hv⟩
  · rw [e] at h
    exact ⟨fun _ => h, fun q => absurd rfl q⟩
  · rw [e] at h
    refine ⟨fun q => absurd q (by decide), fun _ => sp_within (by decide) (by decide) ⟨_, rfl, ?_⟩⟩
    rw [hv]
    exact h
theorem sp_catChance {M : fs_M} {K : fs_K} {minute worth : Int} (hL : fs_lawC M 3) (hK : ∀ M', fs_out fs_F2 M M' → K (some (fs_i (fs_cat M minute worth))) M') :
    fs_C2 g m_Laws_catChance 4 [fs_r 9, fs_i minute, fs_i worth] M K := by
  refine E_Laws_catChance io_9 (E_Laws_putNames io_9 ⟨rfl, ?_⟩)
  refine sp_asked (by decide) (by decide) hL fs_outP fs_nmP (fun M' r ho' h1 hr => ⟨r, rfl, ?_⟩)
  have h := hK M' ho'
  unfold fs_cat at h
  rcases hr with ⟨e, rfl⟩ | ⟨v, e, rfl, hv⟩
  · rw [e] at h
    exact ⟨fun _ => h, fun q => absurd rfl q⟩
  · rw [e] at h
    refine ⟨fun q => absurd q (by decide), fun _ => sp_within (by decide) (by decide) ⟨_, rfl, ?_⟩⟩
    rw [hv]
    exact h
theorem sp_allows {M : fs_M} {K : fs_K} {minute glass left worth home : Int} (hL : fs_lawC M 2) (hK : ∀ M', fs_out fs_F2 M M' → K (some (fs_i (fs_may M minute glass left worth home))) M') :
    fs_C2 g m_Laws_allows 4 [fs_r 9, fs_i minute, fs_i glass, fs_i left, fs_i worth, fs_i home] M K := by
  refine E_Laws_allows io_9 (E_Laws_isTold io_9 ⟨by decide, by decide, fun q => ⟨0, rfl, fun z => absurd rfl z, fun _ => ?_⟩, fun q => ⟨1, rfl, fun _ => ?_, fun z => absurd z (by decide)⟩⟩)
  · have q' : M 13 2 ≤ M 12 2 := q
    have h := hK M fs_out.rf
    unfold fs_may at h
    rw [if_neg (by omega)] at h
    exact h
  · have q' : ¬ M 13 2 ≤ M 12 2 := q
    refine E_Laws_putNames io_9 ⟨rfl, ?_⟩
    have hn : fs_nmC (fs_st (fs_st (fs_st (fs_st (fs_st (fs_st (fs_st (fs_st M 9 9 minute) 9 10 glass) 9 11 left) 9 12 worth) 9 7 0) 9 8 0) 9 13 0) 9 13 home) = fs_nm 0 glass minute 0 left worth home := by
      funext j
      unfold fs_nmC fs_nm
      simp [fs_st]
    refine sp_asked (by decide) (by decide) hL (fs_outP.st (by unfold fs_F2; omega)) hn (fun M' r ho' h1 hr => ⟨r, rfl, ?_⟩)
    have h := hK M' ho'
    unfold fs_may at h
    rw [if_pos (by omega)] at h
    rcases hr with ⟨e, rfl⟩ | ⟨v, e, rfl, hv⟩
    · rw [e] at h
      exact ⟨fun _ => h, fun q => absurd rfl q⟩
    · rw [e] at h
      refine ⟨fun q => absurd q (by decide), fun _ => ?_⟩
      rw [fs_lcmp_le, hv]
      dsimp only at h
      refine ⟨fun z => ?_, fun z => ?_⟩
      · rw [if_pos z] at h; exact h
      · rw [if_neg z] at h; exact h
end LAWOPS
