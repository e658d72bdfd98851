-- ===== the run: what a course is, by numbers; the class's Course goes it =====
def fs_eC (o : Int) : Prop := (1 ≤ o ∧ o ≤ 8) ∨ (10 ≤ o ∧ o ≤ 13) ∨ (228 ≤ o ∧ o ≤ 240)
def fs_env (E M : fs_M) : Prop := ∀ o k, fs_eC o → M o k = E o k
theorem fs_env.law {E M : fs_M} (h : fs_env E M) : (∀ k nm, fs_law M k nm = fs_law E k nm) ∧ (∀ k, fs_lawC E k → fs_lawC M k) := fs_law_cong (fun o k a b => h o k (Or.inr (Or.inl ⟨a, b⟩)))
theorem fs_env.walk {E M : fs_M} (h : fs_env E M) : fs_walk M = fs_walk E := by
  funext a b c d e
  unfold fs_walk
  rw [h.law.1]
theorem fs_env.stay {E M : fs_M} (h : fs_env E M) : fs_stay M = fs_stay E := by
  funext a b c d
  unfold fs_stay
  rw [h.law.1]
theorem fs_env.may {E M : fs_M} (h : fs_env E M) : fs_may M = fs_may E := by
  funext a b c d e
  unfold fs_may
  rw [h.law.1, h 12 2 (Or.inr (Or.inl (by decide))), h 13 2 (Or.inr (Or.inl (by decide)))]
theorem fs_env.cat {E M : fs_M} (h : fs_env E M) : fs_cat M = fs_cat E := by
  funext a b
  unfold fs_cat
  rw [h.law.1]
def fs_bit (x i : Int) : Int := fs_and (fs_shr x i) 1
def fs_wk (E : fs_M) (tr house place leaves glass coal : Int) : Int := fs_walk E (if tr = 2 then 0 else E 3 house - place) leaves glass coal (E 4 house)
def fs_comes (E : fs_M) (tr house place leaves glass coal : Int) : Int := if leaves + fs_wk E tr house place leaves glass coal ≤ 240 then leaves + fs_wk E tr house place leaves glass coal else 1000
def fs_nx (E : fs_M) (tr : Int) (r : List Int) (place leaves glass coal : Int) : Int := match r with
  | [] => 1000
  | h :: _ => fs_comes E tr h place leaves glass coal
def fs_okN (E : fs_M) (tr opn t glass coal h : Int) : Int := if opn = 0 then 0 else if coal = 0 then 0 else if tr = 5 then 1 else fs_may E t glass coal (E 4 h) 0
def fs_vlv (E : fs_M) (tr rf opn t glass coal h : Int) : Int := if fs_okN E tr opn t glass coal h = 0 then t else if fs_bit rf h = 0 then t + fs_stay E t glass coal (E 4 h) else t
def fs_vgl (E : fs_M) (tr rf opn t glass coal h : Int) : Int := if fs_okN E tr opn t glass coal h = 0 then glass else if fs_bit rf h = 0 then glass + 1 else glass
def fs_vco (E : fs_M) (tr opn t glass coal h : Int) : Int := if fs_okN E tr opn t glass coal h = 0 then coal else if tr = 1 then coal else coal - 1
def fs_vdd (E : fs_M) (tr rf q h opn : Int) (M : fs_M) : fs_M := fun o k => if o = q then (if k = 0 then E 3 h else if k = 1 then fs_vlv E tr rf opn (M q 6) (M q 2) (M q 3) h else if k = 2 then fs_vgl E tr rf opn (M q 6) (M q 2) (M q 3) h else if k = 3 then fs_vco E tr opn (M q 6) (M q 2) (M q 3) h else if k = 4 then (M q 4 + fs_okN E tr opn (M q 6) (M q 2) (M q 3) h) else M o k) else M o k
theorem fs_okN01 (E : fs_M) (tr opn t glass coal h : Int) : fs_okN E tr opn t glass coal h = 0 ∨ fs_okN E tr opn t glass coal h = 1 := by
  unfold fs_okN
  split
  · exact Or.inl rfl
  · split
    · exact Or.inl rfl
    · split
      · exact Or.inr rfl
      · exact fs_may01 _ _ _ _ _ _
theorem fs_walk_b {E : fs_M} {way minute glass left worth : Int} (h0 : -1000 ≤ way) (h1 : way ≤ 1000) : 0 ≤ fs_walk E way minute glass left worth ∧ fs_walk E way minute glass left worth ≤ 1000 := by
  unfold fs_walk
  have := fs_put_in (v := fs_law E 0 (fs_nm (way.natAbs : Int) glass minute (if way ≤ 0 then 0 else 1) left worth 0)) (most := 240) (without := (way.natAbs : Int)) (by decide) (by omega)
  omega
theorem fs_stay_b {E : fs_M} {minute glass left worth : Int} : 0 ≤ fs_stay E minute glass left worth ∧ fs_stay E minute glass left worth ≤ 60 := by
  unfold fs_stay
  have := fs_put_in (v := fs_law E 1 (fs_nm 0 glass minute 0 left worth 0)) (most := 60) (without := 2) (by decide) (by decide)
  omega
theorem fs_out2 {M M' : fs_M} (h : fs_out fs_F2 M M') : ∀ o k, o ≠ 14 → o ≠ 9 → M' o k = M o k := fun o k a b => h o k (by unfold fs_F2; omega)
theorem fs_env.out2 {E M M' : fs_M} (h : fs_env E M) (ho : fs_out fs_F2 M M') : fs_env E M' := fun o k q => by
  rw [fs_out2 ho o k (by unfold fs_eC at q; omega) (by unfold fs_eC at q; omega)]
  exact h o k q
section RUN
variable {g : fs_G}
theorem sp_setOut {E M : fs_M} {K : fs_K} {q house tr : Int} (hq : fs_isO 2 q) (hq2 : 51 ≤ q) (hq3 : q < 228) (hE : fs_env E M) (hL : fs_lawC E 0) (htr : M 43 2 = tr)
    (hp : house ≠ -1 → 0 ≤ house ∧ house < 6 ∧ 0 ≤ E 3 house ∧ E 3 house ≤ 99 ∧ 0 ≤ M q 0 ∧ M q 0 ≤ 99 ∧ 0 ≤ M q 1 ∧ M q 1 ≤ 1000)
    (hK : ∀ M', fs_out fs_F2 M M' → K none (fs_st M' q 6 (if house = -1 then 1000 else fs_comes E tr house (M q 0) (M q 1) (M q 2) (M q 3)))) :
    fs_C2 g m_Course_setOut 5 [fs_r 43, fs_r q, fs_i house] M K := by
  refine E_Course_setOut hq ⟨fun hn => ?_, fun he => ?_⟩
  · obtain ⟨p0, p1, p2, p3, p4, p5, p6, p7⟩ := hp hn
    simp only [if_neg hn] at hK
    have e3 : M 3 house = E 3 house := hE 3 house (Or.inl (by decide))
    have e4 : M 4 house = E 4 house := hE 4 house (Or.inl (by decide))
    have go : ∀ way : Int, way = (if tr = 2 then 0 else E 3 house - M q 0) → fs_A2 g m_Course_setOut 5 39 [(0, fs_r 43), (1, fs_r q), (2, fs_i house)] [fs_i way] M K := by
      intro way hw
      have hw0 : -1000 ≤ way ∧ way ≤ 1000 := by
        rw [hw]
        split <;> omega
      have wb := fs_walk_b (E := E) (minute := M q 1) (glass := M q 2) (left := M q 3) (worth := E 4 house) hw0.1 hw0.2
      refine L_Course_setOut_39 hq ⟨p0, p1, ?_⟩
      rw [e4]
      refine sp_walkTime (hE.law.2 0 hL) hw0.1 hw0.2 (fun M' ho => ⟨_, rfl, ?_⟩)
      have e1 : M' q 1 = M q 1 := fs_out2 ho q 1 (by omega) (by omega)
      rw [hE.walk, e1, fs_w32_of (by omega) (by omega)]
      have h := hK M' ho
      unfold fs_comes fs_wk at h
      rw [← hw] at h
      refine ⟨fun z => ?_, fun z => ?_⟩
      · rw [if_pos z] at h; exact h
      · rw [if_neg z] at h; exact h
    refine ⟨fun z => ⟨p0, p1, ?_⟩, fun z => ?_⟩
    · rw [e3, fs_w32_of (by omega) (by omega)]
      exact go _ (by rw [if_neg (by omega)])
    · exact go _ (by rw [if_pos (by omega)])
  · have h := hK M fs_out.rf
    rw [if_pos he] at h
    exact h
theorem sp_doesIt {E M : fs_M} {K : fs_K} {q h opn tr rf pl : Int} (hq : fs_isO 2 q) (hq2 : 51 ≤ q) (hq3 : q < 228) (hE : fs_env E M) (hL : ∀ k, 0 ≤ k → k < 4 → fs_lawC E k) (htr : M 43 2 = tr) (hpl : M 43 1 = pl) (hpl2 : fs_isO 6 pl) (hpl3 : 15 ≤ pl) (hqp : pl ≠ q) (hrf : M pl 2 = rf)
    (h0 : 0 ≤ h) (h6 : h < 6) (b1 : 0 ≤ M q 6) (b2 : M q 6 ≤ 1000) (b3 : 0 ≤ M q 2) (b4 : M q 2 ≤ 100) (b5 : 0 ≤ M q 3) (b6 : M q 3 ≤ 100) (b7 : 0 ≤ M q 4) (b8 : M q 4 ≤ 100)
    (hK : ∀ M', fs_out fs_F2 (fs_vdd E tr rf q h opn M) M' → K (some (fs_i (fs_okN E tr opn (M q 6) (M q 2) (M q 3) h))) M') :
    fs_C2 g m_Course_doesIt 5 [fs_r 43, fs_r q, fs_i h, fs_i opn] M K := by
  have e3 : M 3 h = E 3 h := hE 3 h (Or.inl (by decide))
  have e4 : M 4 h = E 4 h := hE 4 h (Or.inl (by decide))
  have hA : fs_env E (fs_st (fs_st M q 0 (E 3 h)) q 1 (M q 6)) := fun o k z => by
    rw [fs_st_o (by unfold fs_eC at z; omega), fs_st_o (by unfold fs_eC at z; omega)]
    exact hE o k z
  -- nothing comes of it
  have no : fs_okN E tr opn (M q 6) (M q 2) (M q 3) h = 0 → ∀ M', fs_out fs_F2 (fs_st (fs_st M q 0 (E 3 h)) q 1 (M q 6)) M' → K (some (fs_i 0)) M' := by
    intro z M' ho
    have hh := hK M' ?_
    · rw [z] at hh; exact hh
    · intro o k nF
      rw [ho o k nF]
      unfold fs_vdd fs_vlv fs_vgl fs_vco
      rw [z]
      by_cases c : o = q
      · subst c
        by_cases c0 : k = 0
        · simp [fs_st, c0]
        · by_cases c1 : k = 1
          · simp [fs_st, c1]
          · by_cases c2 : k = 2
            · simp [fs_st, c2]
            · by_cases c3 : k = 3
              · simp [fs_st, c3]
              · by_cases c4 : k = 4
                · simp [fs_st, c4]
                · simp [fs_st, c0, c1, c2, c3, c4]
      · simp [fs_st, c]
  -- it is done
  have yes : fs_okN E tr opn (M q 6) (M q 2) (M q 3) h = 1 → ∀ M1, fs_out fs_F2 (fs_st (fs_st M q 0 (E 3 h)) q 1 (M q 6)) M1 → fs_A2 g m_Course_doesIt 5 87 [(0, fs_r 43), (1, fs_r q), (2, fs_i h), (4, fs_i (M q 6)), (5, fs_i (E 4 h)), (6, fs_r 9)] [] M1 K := by
    intro z M1 ho
    have r1 : ∀ o k, ¬ fs_F2 o k → o ≠ q → M1 o k = M o k := fun o k b a => by
      rw [ho o k b, fs_st_o a, fs_st_o a]
    have rq : ∀ k, k ≠ 0 → k ≠ 1 → M1 q k = M q k := fun k a b => by
      rw [fs_out2 ho q k (by omega) (by omega), fs_st_k b, fs_st_k a]
    have rq0 : M1 q 0 = E 3 h := by
      rw [fs_out2 ho q 0 (by omega) (by omega), fs_st_k (by decide), fs_st_s]
    have rq1 : M1 q 1 = M q 6 := by
      rw [fs_out2 ho q 1 (by omega) (by omega), fs_st_s]
    have f1 : M1 43 1 = pl := by rw [r1 43 1 (by unfold fs_F2; omega) (by omega), hpl]
    have f2 : M1 43 2 = tr := by rw [r1 43 2 (by unfold fs_F2; omega) (by omega), htr]
    have f3 : M1 pl 2 = rf := by rw [r1 pl 2 (by unfold fs_F2; omega) hqp, hrf]
    have hE1 : fs_env E M1 := hA.out2 ho
    have last : ∀ M2, (∀ o k, ¬ fs_F2 o k → o ≠ q → M2 o k = M o k) → M2 q 0 = E 3 h → M2 q 1 = fs_vlv E tr rf opn (M q 6) (M q 2) (M q 3) h → M2 q 2 = fs_vgl E tr rf opn (M q 6) (M q 2) (M q 3) h → M2 q 3 = M q 3 → M2 q 4 = M q 4 → (∀ k, k ≠ 0 → k ≠ 1 → k ≠ 2 → k ≠ 3 → k ≠ 4 → M2 q k = M q k) → fs_A2 g m_Course_doesIt 5 135 [(0, fs_r 43), (1, fs_r q)] [] M2 K := by
      intro M2 g1 g2 g3 g4 g5 g6 g7
      have fin : ∀ M3, (∀ o k, ¬ fs_F2 o k → o ≠ q → M3 o k = M o k) → M3 q 0 = E 3 h → M3 q 1 = fs_vlv E tr rf opn (M q 6) (M q 2) (M q 3) h → M3 q 2 = fs_vgl E tr rf opn (M q 6) (M q 2) (M q 3) h → M3 q 3 = fs_vco E tr opn (M q 6) (M q 2) (M q 3) h → M3 q 4 = M q 4 → (∀ k, k ≠ 0 → k ≠ 1 → k ≠ 2 → k ≠ 3 → k ≠ 4 → M3 q k = M q k) → fs_A2 g m_Course_doesIt 5 153 [(1, fs_r q)] [] M3 K := by
        intro M3 k1 k2 k3 k4 k5 k6 k7
        refine L_Course_doesIt_153 hq ?_
        rw [k6, fs_w32_of (by omega) (by omega)]
        have hh := hK (fs_st M3 q 4 (M q 4 + 1)) ?_
        · rw [z] at hh; exact hh
        · intro o k nF
          unfold fs_vdd
          rw [z]
          by_cases c : o = q
          · subst c
            by_cases c0 : k = 0
            · simp [fs_st, c0, k2]
            · by_cases c1 : k = 1
              · simp [fs_st, c1, k3]
              · by_cases c2 : k = 2
                · simp [fs_st, c2, k4]
                · by_cases c3 : k = 3
                  · simp [fs_st, c3, k5]
                  · by_cases c4 : k = 4
                    · simp [fs_st, c4]
                    · simp [fs_st, c0, c1, c2, c3, c4, k7]
          · simp [fs_st, c, k1 o k nF c]
      have t2 : M2 43 2 = tr := by rw [g1 43 2 (by unfold fs_F2; omega) (by omega), htr]
      refine L_Course_doesIt_135 hq ⟨fun w => ?_, fun w => ?_⟩
      · refine fin M2 g1 g2 g3 g4 ?_ g6 g7
        unfold fs_vco
        rw [if_neg (by omega), if_pos (by omega)]
        exact g5
      · rw [g5, fs_w32_of (by omega) (by omega)]
        refine fin _ (fun o k a b => by rw [fs_st_o b]; exact g1 o k a b) (by rw [fs_st_k (by decide)]; exact g2) (by rw [fs_st_k (by decide)]; exact g3) (by rw [fs_st_k (by decide)]; exact g4) ?_ (by rw [fs_st_k (by decide)]; exact g6) (fun k a b c d e => by rw [fs_st_k d]; exact g7 k a b c d e)
        rw [fs_st_s]
        unfold fs_vco
        rw [if_neg (by omega), if_neg (by omega)]
    refine L_Course_doesIt_87 hq ⟨by rw [f1]; exact hpl2, E_Fs_bit ⟨_, rfl, ?_⟩⟩
    rw [f1, f3]
    refine ⟨fun w => ?_, fun w => ?_⟩
    · have w2 : ¬ fs_bit rf h = 0 := w
      refine last M1 r1 rq0 ?_ ?_ (rq 3 (by decide) (by decide)) (rq 4 (by decide) (by decide)) (fun k a b _ _ _ => rq k a b)
      · unfold fs_vlv
        rw [if_neg (by omega), if_neg w2]
        exact rq1
      · unfold fs_vgl
        rw [if_neg (by omega), if_neg w2]
        exact rq 2 (by decide) (by decide)
    · have w2 : fs_bit rf h = 0 := w
      rw [rq 2 (by decide) (by decide), rq 3 (by decide) (by decide)]
      refine sp_stayTime (hE1.law.2 1 (hL 1 (by decide) (by decide))) (fun M3 ho3 => ⟨_, rfl, ?_⟩)
      have sb := fs_stay_b (E := E) (minute := M q 6) (glass := M q 2) (left := M q 3) (worth := E 4 h)
      have q3 : ∀ k, M3 q k = M1 q k := fun k => fs_out2 ho3 q k (by omega) (by omega)
      rw [q3 2, rq 2 (by decide) (by decide), hE1.stay, fs_w32_of (by omega) (by omega), fs_w32_of (by omega) (by omega)]
      refine last _ (fun o k a b => ?_) ?_ ?_ ?_ ?_ ?_ (fun k a b c d e => ?_)
      · rw [fs_st_o b, fs_st_o b, ho3 o k a, r1 o k a b]
      · rw [fs_st_k (by decide), fs_st_k (by decide), q3, rq0]
      · rw [fs_st_k (by decide), fs_st_s]
        unfold fs_vlv
        rw [if_neg (by omega), if_pos w2]
      · rw [fs_st_s]
        unfold fs_vgl
        rw [if_neg (by omega), if_pos w2]
      · rw [fs_st_k (by decide), fs_st_k (by decide), q3, rq 3 (by decide) (by decide)]
      · rw [fs_st_k (by decide), fs_st_k (by decide), q3, rq 4 (by decide) (by decide)]
      · rw [fs_st_k c, fs_st_k b, q3, rq k a b]
  refine E_Course_doesIt hq ⟨h0, h6, ?_⟩
  rw [e3, e4]
  unfold fs_okN at no yes
  refine ⟨fun w => no (by rw [if_pos w]) _ fs_out.rf, fun w => ⟨fun w2 => no (by rw [if_neg w, if_pos w2]) _ fs_out.rf, fun w2 => ⟨fun w3 => yes (by rw [if_neg w, if_neg w2, if_pos (by omega)]) _ fs_out.rf, fun w3 => ?_⟩⟩⟩
  refine sp_allows (hA.law.2 2 (hL 2 (by decide) (by decide))) (fun M1 ho => ⟨_, rfl, ?_⟩)
  rw [hA.may]
  rw [if_neg w, if_neg w2, if_neg (by omega)] at no yes
  refine ⟨fun w4 => yes ?_ M1 ho, fun w4 => no w4 M1 ho⟩
  have := fs_may01 E (M q 6) (M q 2) (M q 3) (E 4 h) 0
  omega
end RUN
