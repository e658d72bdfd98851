-- ===== nights: the class's pass, the model's passes =====
def fs_kat1 (E : fs_M) (t h : Int) (Z : fs_M × Int) : fs_M × Int :=
  if Z.1 7 h = -1 then
    (if fs_cat E t (E 4 h) ≤ 0 then Z
     else if fs_drw Z.2 < fs_cat E t (E 4 h) then (fs_st (fs_st Z.1 7 h (-3)) 8 h t, fs_rnd Z.2) else (Z.1, fs_rnd Z.2))
  else Z
def fs_cats (E : fs_M) (t : Int) : Nat → fs_M × Int → fs_M × Int
  | 0, Z => Z
  | n + 1, Z => fs_kat1 E t n (fs_cats E t n Z)
def fs_nts (E : fs_M) (rf : Int) : Nat → ((Int → List Int) × fs_M) × Int → ((Int → List Int) × fs_M) × Int
  | 0, Y => Y
  | n + 1, Y => (((fs_go E (-1) rf (n + 1) 27 (fs_nts E rf n Y).1).1, (fs_cats E (n + 1) (E 1 5).toNat ((fs_go E (-1) rf (n + 1) 27 (fs_nts E rf n Y).1).2, (fs_nts E rf n Y).2)).1), (fs_cats E (n + 1) (E 1 5).toNat ((fs_go E (-1) rf (n + 1) 27 (fs_nts E rf n Y).1).2, (fs_nts E rf n Y).2)).2)
theorem fs_cat_b {E : fs_M} {t w : Int} : 0 ≤ fs_cat E t w ∧ fs_cat E t w ≤ 1000 := by
  unfold fs_cat
  have := fs_put_in (v := fs_law E 3 (fs_nm 0 0 t 0 0 w 0)) (most := 1000) (without := 0) (by decide) (by decide)
  omega
/-- cats change by whom and when, nothing else -/
theorem fs_cats_o {E : fs_M} {t : Int} {Z : fs_M × Int} : ∀ (n : Nat) (c i : Int), c ≠ 7 → c ≠ 8 → (fs_cats E t n Z).1 c i = Z.1 c i
  | 0, _, _, _, _ => rfl
  | n + 1, c, i, h7, h8 => by
    have ih := fs_cats_o (E := E) (t := t) (Z := Z) n c i h7 h8
    show (fs_kat1 E t n (fs_cats E t n Z)).1 c i = _
    unfold fs_kat1
    split
    · split
      · exact ih
      · split
        · show fs_st (fs_st (fs_cats E t n Z).1 7 n (-3)) 8 n t c i = _
          rw [fs_st_o h8, fs_st_o h7]
          exact ih
        · exact ih
    · exact ih
theorem fs_rI.cong {E : fs_M} {R : Int → List Int} {S S2 : fs_M} (h : fs_rI E (R, S)) (he : ∀ c i, c ≠ 7 → c ≠ 8 → S2 c i = S c i) : fs_rI E (R, S2) := by
  refine ⟨fun d d0 d1 => ?_, fun d d0 d1 d2 => ?_⟩
  · have := h.1 d d0 d1
    unfold fs_rI1 at this ⊢
    dsimp only at this ⊢
    rw [he 0 d (by decide) (by decide), he 1 d (by decide) (by decide), he 2 d (by decide) (by decide), he 3 d (by decide) (by decide), he 4 d (by decide) (by decide), he 5 d (by decide) (by decide), he 6 d (by decide) (by decide)]
    exact this
  · have := h.2 d d0 d1 d2
    dsimp only at this ⊢
    rw [he 0 d (by decide) (by decide)]
    exact this
theorem fs_tot_go {E : fs_M} {tr rf m : Int} (hB : fs_bE E) (hm : m ≤ 240) {k : Nat} : ∀ (n : Nat) (X : (Int → List Int) × fs_M), fs_rI E X → fs_tot X ≤ k → fs_tot (fs_go E tr rf m n X) ≤ k := by
  intro n
  induction n with
  | zero => intro X _ h; exact h
  | succ n ih =>
    intro X hI h
    unfold fs_go
    split
    · have := fs_tot_step (tr := tr) (rf := rf) hI (by omega)
      exact ih _ (hI.step hB (by omega)) (by omega)
    · exact h
theorem fs_cR.cong {E M M' : fs_M} {pl tr : Int} {X : (Int → List Int) × fs_M} (hB : E 1 9 ≤ 3) (hP : fs_pl pl) (h : fs_cR E M pl tr X) (he : ∀ o k, fs_eC o ∨ (31 ≤ o ∧ o ≤ 53) ∨ (97 ≤ o ∧ o ≤ 222) → M' o k = M o k) : fs_cR E M' pl tr X := by
  obtain ⟨R1, R2, R3, R4, R5, R6⟩ := h
  have p1 := hP.2
  refine ⟨fun o k q => by rw [he o k (Or.inl q)]; exact R1 o k q, by rw [he _ _ (Or.inr (Or.inl (by decide)))]; exact R2, by rw [he _ _ (Or.inr (Or.inl (by decide)))]; exact R3, fun d d0 d1 => ?_, fun i i0 i1 => ?_, by rw [he _ _ (Or.inr (Or.inl (by decide)))]; exact R6⟩
  · have fw : M' (pl + 2 + d) = M (pl + 2 + d) := funext (fun k => he _ _ (Or.inr (by omega)))
    have f5 : ∀ k, M' (51 + d) k = M (51 + d) k := fun k => he _ _ (Or.inr (Or.inl (by omega)))
    have f4 : ∀ k, M' (46 + d) k = M (46 + d) k := fun k => he _ _ (Or.inr (Or.inl (by omega)))
    have fl : M' (pl + 5) d = M (pl + 5) d := he _ _ (Or.inr (by omega))
    obtain ⟨q1, q2, q3, q4, q5, q6, q7, q8, q9, q10, q11⟩ := R4 d d0 d1
    rw [fw, fl, f5, f5, f5, f5, f5, f5, f5]
    refine ⟨q1, q2, q3, q4, q5, q6, q7, q8, q9, q10, fun k k0 k1 => ?_⟩
    rw [f4]
    exact q11 k k0 k1
  · rw [he 49 _ (Or.inr (Or.inl (by decide))), he 50 _ (Or.inr (Or.inl (by decide)))]
    exact R5 i i0 i1
theorem fs_cR.cat {E M : fs_M} {pl tr h t : Int} {R : Int → List Int} {S : fs_M} (hB : E 1 9 ≤ 3) (hP : fs_pl pl) (hr : fs_cR E M pl tr (R, S)) : fs_cR E (fs_st (fs_st M 49 h (-3)) 50 h t) pl tr (R, fs_st (fs_st S 7 h (-3)) 8 h t) := by
  obtain ⟨R1, R2, R3, R4, R5, R6⟩ := hr
  have p1 := hP.2
  have o49 : ∀ o k, o ≠ 49 → o ≠ 50 → fs_st (fs_st M 49 h (-3)) 50 h t o k = M o k := fun o k a b => by rw [fs_st_o b, fs_st_o a]
  have o7 : ∀ c i, c ≠ 7 → c ≠ 8 → fs_st (fs_st S 7 h (-3)) 8 h t c i = S c i := fun c i a b => by rw [fs_st_o b, fs_st_o a]
  refine ⟨fun o k q => by rw [o49 o k (by unfold fs_eC at q; omega) (by unfold fs_eC at q; omega)]; exact R1 o k q, by rw [o49 _ _ (by decide) (by decide)]; exact R2, by rw [o49 _ _ (by decide) (by decide)]; exact R3, fun d d0 d1 => ?_, fun i i0 i1 => ?_, ?_⟩
  · have fw : fs_st (fs_st M 49 h (-3)) 50 h t (pl + 2 + d) = M (pl + 2 + d) := funext (fun k => o49 _ _ (by omega) (by omega))
    have f5 : ∀ k, fs_st (fs_st M 49 h (-3)) 50 h t (51 + d) k = M (51 + d) k := fun k => o49 _ _ (by omega) (by omega)
    have f4 : ∀ k, fs_st (fs_st M 49 h (-3)) 50 h t (46 + d) k = M (46 + d) k := fun k => o49 _ _ (by omega) (by omega)
    have fl : fs_st (fs_st M 49 h (-3)) 50 h t (pl + 5) d = M (pl + 5) d := o49 _ _ (by omega) (by omega)
    obtain ⟨q1, q2, q3, q4, q5, q6, q7, q8, q9, q10, q11⟩ := R4 d d0 d1
    dsimp only at *
    rw [fw, fl, f5, f5, f5, f5, f5, f5, f5, o7 0 d (by decide) (by decide), o7 1 d (by decide) (by decide), o7 2 d (by decide) (by decide), o7 3 d (by decide) (by decide), o7 4 d (by decide) (by decide), o7 5 d (by decide) (by decide), o7 6 d (by decide) (by decide)]
    refine ⟨q1, q2, q3, q4, q5, q6, q7, q8, q9, q10, fun k k0 k1 => ?_⟩
    rw [f4, o7 (10 + d) k (by omega) (by omega)]
    exact q11 k k0 k1
  · obtain ⟨x, y⟩ := R5 i i0 i1
    dsimp only at x y ⊢
    by_cases c : i = h
    · rw [c, fs_st_o (by decide), fs_st_s, fs_st_s, fs_st_o (by decide), fs_st_s, fs_st_s]
      exact ⟨rfl, rfl⟩
    · rw [fs_st_k c, fs_st_k c, fs_st_k c, fs_st_k c, fs_st_k c, fs_st_k c, fs_st_k c, fs_st_k c]
      exact ⟨x, y⟩
  · dsimp only at R6 ⊢
    rw [o49 _ _ (by decide) (by decide), o7 9 0 (by decide) (by decide)]
    exact R6
def fs_FN (nt o k : Int) : Prop := fs_F5 o k ∨ (o = nt ∧ k = 3)
theorem fs_FN_cR {nt : Int} (hnt : nt = 54 ∨ nt = 57) {M M' : fs_M} (h : fs_out (fun o k => fs_F2 o k ∨ (o = nt ∧ k = 3)) M M') : ∀ o k, fs_eC o ∨ (31 ≤ o ∧ o ≤ 53) ∨ (97 ≤ o ∧ o ≤ 222) → M' o k = M o k := fun o k q => h o k (by unfold fs_F2; unfold fs_eC at q; omega)
section NIGHT
variable {g : fs_G}
theorem sp_letCats {E M : fs_M} {K : fs_K} {nt t : Int} {X : (Int → List Int) × fs_M} (hnt : nt = 54 ∨ nt = 57) (hB : fs_bE E) (h0 : fs_isO 4 nt) (hR : fs_cR E M 31 (-1) X) (hK : ∀ M', fs_out (fs_FN nt) M M' → fs_cR E M' 31 (-1) (X.1, (fs_cats E t (E 1 5).toNat (X.2, M nt 3)).1) → M' nt 3 = (fs_cats E t (E 1 5).toNat (X.2, M nt 3)).2 → K none M') : fs_C2 g m_Night_letCats 5 [fs_r nt, fs_r 43, fs_i t] M K := by
  have hB' := hB
  obtain ⟨B1, B2, B3, B4, B5, B6, B7⟩ := hB
  have loop : ∀ (n : Nat) (i : Int) (M1 : fs_M), 0 ≤ i → i ≤ E 1 5 → E 1 5 - i = n → fs_out (fs_FN nt) M M1 → fs_cR E M1 31 (-1) (X.1, (fs_cats E t i.toNat (X.2, M nt 3)).1) → M1 nt 3 = (fs_cats E t i.toNat (X.2, M nt 3)).2 → fs_A2 g m_Night_letCats 5 8 [(0, fs_r nt), (1, fs_r 43), (2, fs_i t), (3, fs_r 1), (4, fs_i i)] [] M1 K := by
    intro n
    induction n with
    | zero =>
      intro i M1 i0 i1 hn o1 r1 z1
      refine L_Night_letCats_8 h0 ⟨fun _ => ?_, fun w => absurd w (by have := r1.1 1 5 (Or.inl (by decide)); omega)⟩
      rw [show i = E 1 5 by omega] at r1 z1
      exact hK M1 o1 r1 z1
    | succ n ih =>
      intro i M1 i0 i1 hn o1 r1 z1
      have e5 : M1 1 5 = E 1 5 := r1.1 1 5 (Or.inl (by decide))
      have e4 : M1 4 i = E 4 i := r1.1 4 i (Or.inl (by decide))
      have cb := fs_cat_b (E := E) (t := t) (w := E 4 i)
      obtain ⟨s7, s8⟩ := r1.2.2.2.2.1 i i0 (by omega)
      dsimp only at s7 s8
      have es : ∀ Z, Z = fs_kat1 E t i (fs_cats E t i.toNat (X.2, M nt 3)) → fs_cats E t (i + 1).toNat (X.2, M nt 3) = Z := fun Z hZ => by
        rw [show (i + 1).toNat = i.toNat + 1 by omega, hZ]
        show fs_kat1 E t (i.toNat : Int) _ = _
        rw [show ((i.toNat : Nat) : Int) = i by omega]
      have nxt : ∀ M2, fs_out (fs_FN nt) M M2 → fs_cR E M2 31 (-1) (X.1, (fs_kat1 E t i (fs_cats E t i.toNat (X.2, M nt 3))).1) → M2 nt 3 = (fs_kat1 E t i (fs_cats E t i.toNat (X.2, M nt 3))).2 → fs_A2 g m_Night_letCats 5 8 [(0, fs_r nt), (1, fs_r 43), (2, fs_i t), (3, fs_r 1), (4, fs_i (fs_w32 (i + 1)))] [] M2 K := fun M2 o2 r2 z2 => by
        rw [fs_w32_of (by omega) (by omega)]
        refine ih (i + 1) M2 (by omega) (by omega) (by omega) o2 ?_ ?_
        · rw [es _ rfl]; exact r2
        · rw [es _ rfl]; exact z2
      generalize hZ : fs_cats E t i.toNat (X.2, M nt 3) = Z at *
      refine L_Night_letCats_8 h0 ⟨fun w => absurd w (by omega), fun _ => ⟨i0, by omega, fun nn => ?_, fun yn => ?_⟩⟩
      · refine nxt M1 o1 ?_ ?_
        · unfold fs_kat1
          rw [if_neg (by omega)]
          exact r1
        · unfold fs_kat1
          rw [if_neg (by omega)]
          exact z1
      · rw [e4]
        refine sp_catChance (r1.1.law.2 3 (B7 3 (by decide) (by decide))) (fun M2 o2 => ⟨_, rfl, ?_⟩)
        rw [r1.1.cat]
        have o2w : fs_out (fun o k => fs_F2 o k ∨ (o = nt ∧ k = 3)) M1 M2 := o2.wk (fun _ _ q => Or.inl q)
        have r2 := r1.cong B4 fs_pl31 (fs_FN_cR hnt o2w)
        have o2' : fs_out (fs_FN nt) M M2 := o1.tr (o2.wk (fun _ _ q => Or.inl (Or.inl q)))
        have z2 : M2 nt 3 = Z.2 := by rw [o2 nt 3 (by unfold fs_F2; omega)]; exact z1
        refine ⟨fun c0 => nxt M2 o2' ?_ ?_, fun c1 => sp_drawC h0 ⟨_, rfl, ?_⟩⟩
        · unfold fs_kat1
          rw [if_pos (by omega), if_pos c0]
          exact r2
        · unfold fs_kat1
          rw [if_pos (by omega), if_pos c0]
          exact z2
        · have rb := fs_rnd_b Z.2
          rw [z2, fs_remN (by omega) (by omega)]
          have o3 : fs_out (fun o k => fs_F2 o k ∨ (o = nt ∧ k = 3)) M2 (fs_st M2 nt 3 (fs_rnd Z.2)) := fs_out.rf.st (Or.inr ⟨rfl, rfl⟩)
          have r3 := r2.cong B4 fs_pl31 (fs_FN_cR hnt o3)
          have o3' : fs_out (fs_FN nt) M (fs_st M2 nt 3 (fs_rnd Z.2)) := o2'.st (Or.inr ⟨rfl, rfl⟩)
          have ed : fs_rnd Z.2 / 65536 % 1000 = fs_drw Z.2 := rfl
          rw [ed]
          refine ⟨fun le => nxt _ o3' ?_ ?_, fun gt => nxt _ ((o3'.st (Or.inl (by unfold fs_F5; omega))).st (Or.inl (by unfold fs_F5; omega))) ?_ ?_⟩
          · unfold fs_kat1
            rw [if_pos (by omega), if_neg c1, if_neg (by omega)]
            exact r3
          · unfold fs_kat1
            rw [if_pos (by omega), if_neg c1, if_neg (by omega), fs_st_s]
          · unfold fs_kat1
            rw [if_pos (by omega), if_neg c1, if_pos (by omega)]
            exact fs_cR.cat B4 fs_pl31 r3
          · unfold fs_kat1
            rw [if_pos (by omega), if_neg c1, if_pos (by omega), fs_st_o (by omega), fs_st_o (by omega), fs_st_s]
  exact E_Night_letCats h0 (loop (E 1 5).toNat 0 M (by decide) (by omega) (by omega) fs_out.rf hR rfl)
end NIGHT
