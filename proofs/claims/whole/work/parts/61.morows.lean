-- ===== the model tries all rows =====
def fs_upd (R : Int → List Int) (d : Int) (r : List Int) : Int → List Int := fun i => if i = d then r else R i
def fs_okU (wo U : Int) : Int → Bool := fun h => !decide (fs_bit U h = 1) && !decide (h = wo)
def fs_enm (H : Nat) (wo : Int) : Nat → Int → Int → (Int → List Int) → List (Int → List Int)
  | 0, _, _, R => [R]
  | k + 1, d, U, R => fs_fmp (fun r => fs_enm H wo k (d + 1) (fs_bts r U) (fs_upd R d r)) (fs_ext H (fs_okU wo U) 6 [])
theorem fs_upd_id {R : Int → List Int} {d : Int} {r : List Int} (h : R d = r) : fs_upd R d r = R := by
  funext i
  unfold fs_upd
  by_cases c : i = d
  · rw [if_pos c, c, h]
  · rw [if_neg c]
theorem fs_upd_upd {R : Int → List Int} {d : Int} {r s : List Int} : fs_upd (fs_upd R d r) d s = fs_upd R d s := by
  funext i
  unfold fs_upd
  by_cases c : i = d
  · rw [if_pos c, if_pos c]
  · rw [if_neg c, if_neg c, if_neg c]
theorem fs_filter_lt {p q : Int → Bool} {x : Int} : ∀ {l : List Int}, x ∈ l → p x = true → q x = false → (∀ a, q a = true → p a = true) → (l.filter q).length + 1 ≤ (l.filter p).length
  | [], hx, _, _, _ => by cases hx
  | a :: t, hx, hp, hq, hi => by
    have le : ∀ (l : List Int), (l.filter q).length ≤ (l.filter p).length := by
      intro l
      induction l with
      | nil => exact Nat.le_refl _
      | cons b u ih =>
        by_cases c : q b = true
        · rw [List.filter_cons_of_pos c, List.filter_cons_of_pos (hi b c), List.length_cons, List.length_cons]
          omega
        · rw [List.filter_cons_of_neg c]
          by_cases c2 : p b = true
          · rw [List.filter_cons_of_pos c2, List.length_cons]
            omega
          · rw [List.filter_cons_of_neg c2]
            exact ih
    rcases List.mem_cons.1 hx with e | e
    · rw [← e, List.filter_cons_of_pos hp, List.filter_cons_of_neg (by rw [hq]; decide), List.length_cons]
      have := le t
      omega
    · have ih := fs_filter_lt e hp hq hi
      by_cases c : q a = true
      · rw [List.filter_cons_of_pos c, List.filter_cons_of_pos (hi a c), List.length_cons, List.length_cons]
        omega
      · rw [List.filter_cons_of_neg c]
        by_cases c2 : p a = true
        · rw [List.filter_cons_of_pos c2, List.length_cons]
          omega
        · rw [List.filter_cons_of_neg c2]
          exact ih
theorem fs_hf_lt {ok : Int → Bool} {r : List Int} {m : Nat} {x h : Int} (hh : h ∈ fs_hf ok r m x) : (fs_hf ok (r ++ [h]) m x).length + 1 ≤ (fs_hf ok r m x).length := by
  unfold fs_hf at hh ⊢
  obtain ⟨a, b⟩ := List.mem_filter.1 hh
  refine fs_filter_lt a b ?_ (fun y hy => ?_)
  · have : h ∈ r ++ [h] := List.mem_append.2 (Or.inr List.mem_cons_self)
    rw [decide_eq_true this]
    simp
  · rw [Bool.and_eq_true] at hy ⊢
    refine ⟨hy.1, ?_⟩
    have : y ∉ r := fun q => by
      have w := hy.2
      rw [decide_eq_true (List.mem_append.2 (Or.inl q))] at w
      exact absurd w (by decide)
    rw [decide_eq_false this]
    rfl
/-- the houses that may come are the same, told by the bits or by the row -/
theorem fs_hf_bts {wo U : Int} {r : List Int} {m : Nat} {x : Int} (hr : ∀ h, h ∈ r → 0 ≤ h ∧ h < 6) (x0 : 0 ≤ x) (x6 : x + m ≤ 6) : fs_hf (fs_okU wo (fs_bts r U)) [] m x = fs_hf (fs_okU wo U) r m x := by
  unfold fs_hf
  apply List.filter_congr
  intro h hh
  obtain ⟨k, k0, k1, e⟩ := fs_lst_mem hh
  have e2 : k = h := e
  have b := fs_bts_bit (i := h) (by omega) (by omega) r U hr
  have n0 : decide (h ∈ ([] : List Int)) = false := decide_eq_false (fun q => by cases q)
  rw [n0]
  unfold fs_okU
  by_cases c : h ∈ r
  · rw [decide_eq_true (b.2 (Or.inr c)), decide_eq_true c]
    simp
  · rw [decide_eq_false c]
    by_cases u : fs_bit U h = 1
    · rw [decide_eq_true (b.2 (Or.inl u)), decide_eq_true u]
    · rw [decide_eq_false (fun q => (b.1 q).elim u c), decide_eq_false u]
def fs_hasR (M : fs_M) (R : Int → List Int) : Prop := ∀ d, 0 ≤ d → d < 3 → M 252 d = (R d).length ∧ (R d).length ≤ 9 ∧ fs_lst (M 251) (R d).length (9 * d) = R d
def fs_mc (E : fs_M) (wo first : Int) (M : fs_M) : Prop := fs_env E M ∧ M 244 0 = E 31 3 ∧ M 226 42 = -1 ∧ M 226 43 = -1 ∧ M 226 44 = wo ∧ M 226 47 = E 31 2 ∧ M 226 62 = first
def fs_good (E : fs_M) (wo : Int) (R : Int → List Int) : Prop := fs_bR E R ∧ fs_dj R ∧ ∀ d, 0 ≤ d → d < 3 → ∀ h, h ∈ R d → h ≠ wo
def fs_FJ (o k : Int) : Prop := fs_F6 o k ∨ o = 263 ∨ o = 264 ∨ (o = 226 ∧ (k = 63 ∨ k = 67))
def fs_FJr (o k : Int) : Prop := fs_FJ o k ∨ o = 251 ∨ o = 252
theorem fs_mc.out {E M M' : fs_M} {wo first : Int} (h : fs_mc E wo first M) (ho : fs_out fs_FJr M M') : fs_mc E wo first M' := by
  obtain ⟨a, b, c, d, e, f, k⟩ := h
  have q : ∀ k, k = 42 ∨ k = 43 ∨ k = 44 ∨ k = 47 ∨ k = 62 → M' 226 k = M 226 k := fun k w => ho 226 k (by unfold fs_FJr fs_FJ fs_F6 fs_F4; omega)
  exact ⟨fun o k w => by rw [ho o k (by unfold fs_FJr fs_FJ fs_F6 fs_F4; unfold fs_eC at w; omega)]; exact a o k w, by rw [ho 244 0 (by unfold fs_FJr fs_FJ fs_F6 fs_F4; omega)]; exact b, by rw [q 42 (by omega)]; exact c, by rw [q 43 (by omega)]; exact d, by rw [q 44 (by omega)]; exact e, by rw [q 47 (by omega)]; exact f, by rw [q 62 (by omega)]; exact k⟩
theorem fs_hasR.cong {M M' : fs_M} {R : Int → List Int} (h : fs_hasR M R) (he : ∀ o k, o = 251 ∨ o = 252 → M' o k = M o k) : fs_hasR M' R := fun d d0 d1 => by
  obtain ⟨a, b, c⟩ := h d d0 d1
  rw [he 252 d (by omega), fs_lst_cong (f2 := M 251) (fun k _ _ => he 251 k (by omega))]
  exact ⟨a, b, c⟩
theorem fs_FJ_r {M M' : fs_M} (ho : fs_out fs_FJ M M') : ∀ o k, o = 251 ∨ o = 252 → M' o k = M o k := fun o k q => ho o k (by unfold fs_FJ fs_F6 fs_F4; omega)
/-- what is used, by its bits -/
def fs_usd (R : Int → List Int) (V : Int) : Prop := ∀ h, 0 ≤ h → h < 6 → (fs_bit V h = 1 ↔ ∃ e, 0 ≤ e ∧ e < 3 ∧ h ∈ R e)
section MOROWS
variable {g : fs_G}
theorem sp_rows {E : fs_M} {β : Type} {j : β → (Int → List Int) → β} {Inv : β → fs_M → Prop} {stop : β → Bool} {wo first : Int} (hB : fs_bE E) (hT : fs_rt E) (hf9 : first ≤ E 1 9)
    (hStop : ∀ b, stop b = true → ∀ R, j b R = b) (hF : ∀ b M, Inv b M → (M 226 67 = 0 ↔ stop b = false)) (hcong : ∀ b M M', Inv b M → (∀ o k, ¬ (fs_F6 o k ∨ o = 251 ∨ o = 252) → M' o k = M o k) → Inv b M')
    (hJ : ∀ (b : β) (R : Int → List Int) (M : fs_M) (K : fs_K), stop b = false → Inv b M → fs_mc E wo first M → fs_hasR M R → fs_good E wo R → (∀ M', fs_out fs_FJ M M' → Inv (j b R) M' → K none M') → fs_C2 g m_Mo_judges 9 [fs_r 226] M K) :
    ∀ (k dd : Nat) (d V : Int) (R : Int → List Int) (b : β) (M : fs_M) (K : fs_K), 10 + k + (fs_hf (fs_okU wo V) [] (E 1 5).toNat 0).length ≤ dd → d + k = first → 0 ≤ d → (∀ e, d ≤ e → e < 3 → R e = []) → fs_usd R V → fs_good E wo R → fs_hasR M R → fs_mc E wo first M → Inv b M →
      (∀ M', fs_out fs_FJr M M' → Inv ((fs_enm (E 1 5).toNat wo k d V R).foldl j b) M' → fs_hasR M' R → K none M') → fs_C2 g m_Mo_rows dd [fs_r 226, fs_i d, fs_i V] M K := by
  have h5 := hB.1
  have h6 := hB.2.1
  have h3 := hB.2.2.2.1
  have stopL : ∀ (l : List (Int → List Int)) (b : β), stop b = true → l.foldl j b = b := by
    intro l
    induction l with
    | nil => intro b _; rfl
    | cons R t ih =>
      intro b hb
      show t.foldl j (j b R) = b
      rw [hStop b hb R]
      exact ih b hb
  intro k
  induction k with
  | zero =>
    intro dd d V R b M K hd hk d0 hR hU hG hM hC hI hK
    obtain ⟨e, rfl⟩ : ∃ e, dd = e + 1 := ⟨dd - 1, by omega⟩
    refine E_Mo_rows (by omega) ⟨fun z => ⟨fun w => ?_, fun _ => ?_⟩, fun z => ?_⟩
    · rw [hC.2.2.2.2.2.2] at w
      omega
    · exact hJ b R M _ ((hF b M hI).1 z) hI hC hM hG (fun M' o' i' => ⟨rfl, hK M' (o'.wk (fun _ _ q => Or.inl q)) i' (hM.cong (fs_FJ_r o'))⟩)
    · have st : stop b = true := by
        cases hs : stop b with
        | true => rfl
        | false => exact absurd ((hF b M hI).2 hs) z
      refine hK M fs_out.rf ?_ hM
      rw [stopL _ b st]
      exact hI
  | succ k ihk =>
    -- within a row of dark one d
    have row : ∀ (n dd : Nat) (d U : Int) (R : Int → List Int) (r : List Int) (b : β) (M : fs_M) (K : fs_K), 11 + k + (fs_hf (fs_okU wo U) r (E 1 5).toNat 0).length ≤ dd → (fs_hf (fs_okU wo U) r (E 1 5).toNat 0).length ≤ n → r.length + n = 6 → d + (k + 1) = first → 0 ≤ d → R d = r → (∀ e, d < e → e < 3 → R e = []) → fs_usd R (fs_bts r U) → fs_good E wo R → fs_hasR M R → fs_mc E wo first M → Inv b M →
        (∀ M', fs_out fs_FJr M M' → Inv ((fs_fmp (fun s => fs_enm (E 1 5).toNat wo k (d + 1) (fs_bts s U) (fs_upd R d s)) (fs_ext (E 1 5).toNat (fs_okU wo U) n r)).foldl j b) M' → fs_hasR M' R → K none M') → fs_C2 g m_Mo_rows dd [fs_r 226, fs_i d, fs_i (fs_bts r U)] M K := by
      intro n
      induction n with
      | zero =>
        intro dd d U R r b M K hd hf hr hk d0 hRd hR hU hG hM hC hI hK
        obtain ⟨e, rfl⟩ : ∃ e, dd = e + 1 := ⟨dd - 1, by omega⟩
        have r6 : ∀ h, h ∈ r → 0 ≤ h ∧ h < 6 := fun h hh => by
          have := (hG.1.1 d d0 (by omega)).2 h (by rw [hRd]; exact hh)
          omega
        refine E_Mo_rows (by omega) ⟨fun z => ⟨fun _ => ?_, fun w => ?_⟩, fun z => ?_⟩
        · rw [fs_w32_of (by omega) (by omega)]
          refine ihk e (d + 1) (fs_bts r U) R b M _ ?_ (by omega) (by omega) (fun x a c => hR x (by omega) c) hU hG hM hC hI (fun M1 o1 i1 m1 => ⟨rfl, ?_⟩)
          · rw [fs_hf_bts r6 (by decide) (by omega)]
            omega
          · have e1 : fs_fmp (fun s => fs_enm (E 1 5).toNat wo k (d + 1) (fs_bts s U) (fs_upd R d s)) (fs_ext (E 1 5).toNat (fs_okU wo U) 0 r) = fs_enm (E 1 5).toNat wo k (d + 1) (fs_bts r U) R ++ [] := by
              show fs_enm (E 1 5).toNat wo k (d + 1) (fs_bts r U) (fs_upd R d r) ++ [] = _
              rw [fs_upd_id hRd]
            rw [e1, List.append_nil] at hK
            have loop : ∀ (m : Nat) (x : Int), x + m = E 1 5 → 0 ≤ x → fs_A2 g m_Mo_rows (e + 1) 31 [(0, fs_r 226), (1, fs_i d), (2, fs_i (fs_bts r U)), (3, fs_i x)] [] M1 K := by
              intro m
              induction m with
              | zero =>
                intro x hx x0
                refine L_Mo_rows_31 (by omega) ⟨fun _ => hK M1 o1 i1 m1, fun w => ?_⟩
                rw [(hC.out o1).1 228 0 (by unfold fs_eC; omega), hT.1] at w
                omega
              | succ m ihm =>
                intro x hx x0
                have nx := ihm (x + 1) (by omega) (by omega)
                rw [show x + 1 = fs_w32 (x + 1) from (fs_w32_of (by omega) (by omega)).symm] at nx
                have bt := fs_bts_bit (i := x) x0 (by omega) r U r6
                have no : fs_bit (fs_bts r U) x = 1 ∨ x = wo := by
                  by_cases a : fs_bit (fs_bts r U) x = 1
                  · exact Or.inl a
                  · by_cases c : x = wo
                    · exact Or.inr c
                    · have mem : x ∈ fs_hf (fs_okU wo U) r (E 1 5).toNat 0 := fs_hf_in x0 (by omega) (by unfold fs_okU; rw [decide_eq_false (fun q => a (bt.2 (Or.inl q))), decide_eq_false c]; rfl) (fun q => a (bt.2 (Or.inr q)))
                      have := List.length_pos_of_mem mem
                      omega
                refine L_Mo_rows_31 (by omega) ⟨fun w => ?_, fun _ => ⟨fun _ => nx, fun w => ⟨fun w2 => ?_, fun _ => nx⟩⟩⟩
                · rw [(hC.out o1).1 228 0 (by unfold fs_eC; omega), hT.1] at w
                  omega
                · rw [(hC.out o1).2.2.2.2.1] at w2
                  rcases no with q | q
                  · exact absurd q w
                  · exact absurd q w2
            exact loop (E 1 5).toNat 0 (by omega) (by decide)
        · rw [hC.2.2.2.2.2.2] at w
          omega
        · have st : stop b = true := by
            cases hs : stop b with
            | true => rfl
            | false => exact absurd ((hF b M hI).2 hs) z
          refine hK M fs_out.rf ?_ hM
          rw [stopL _ b st]
          exact hI
      | succ n ihn =>
        intro dd d U R r b M K hd hf hr hk d0 hRd hR hU hG hM hC hI hK
        obtain ⟨e, rfl⟩ : ∃ e, dd = e + 1 := ⟨dd - 1, by omega⟩
        have r6 : ∀ h, h ∈ r → 0 ≤ h ∧ h < 6 := fun h hh => by
          have := (hG.1.1 d d0 (by omega)).2 h (by rw [hRd]; exact hh)
          omega
        refine E_Mo_rows (by omega) ⟨fun z => ⟨fun _ => ?_, fun w => ?_⟩, fun z => ?_⟩
        · rw [fs_w32_of (by omega) (by omega)]
          refine ihk e (d + 1) (fs_bts r U) R b M _ ?_ (by omega) (by omega) (fun x a c => hR x (by omega) c) hU hG hM hC hI (fun M1 o1 i1 m1 => ⟨rfl, ?_⟩)
          · rw [fs_hf_bts r6 (by decide) (by omega)]
            omega
          · have e1 : fs_fmp (fun s => fs_enm (E 1 5).toNat wo k (d + 1) (fs_bts s U) (fs_upd R d s)) (fs_ext (E 1 5).toNat (fs_okU wo U) (n + 1) r) = fs_enm (E 1 5).toNat wo k (d + 1) (fs_bts r U) R ++ fs_fmp (fun s => fs_enm (E 1 5).toNat wo k (d + 1) (fs_bts s U) (fs_upd R d s)) (fs_fmp (fun h => fs_ext (E 1 5).toNat (fs_okU wo U) n (r ++ [h])) (fs_hf (fs_okU wo U) r (E 1 5).toNat 0)) := by
              show fs_enm (E 1 5).toNat wo k (d + 1) (fs_bts r U) (fs_upd R d r) ++ _ = _
              rw [fs_upd_id hRd]
            rw [e1, List.foldl_append] at hK
            generalize (fs_enm (E 1 5).toNat wo k (d + 1) (fs_bts r U) R).foldl j b = b1 at *
            have loop : ∀ (m : Nat) (x : Int) (b2 : β) (M2 : fs_M), x + m = E 1 5 → 0 ≤ x → fs_out fs_FJr M M2 → Inv b2 M2 → fs_hasR M2 R → (∀ M', fs_out fs_FJr M M' → Inv ((fs_fmp (fun s => fs_enm (E 1 5).toNat wo k (d + 1) (fs_bts s U) (fs_upd R d s)) (fs_fmp (fun h => fs_ext (E 1 5).toNat (fs_okU wo U) n (r ++ [h])) (fs_hf (fs_okU wo U) r m x))).foldl j b2) M' → fs_hasR M' R → K none M') → fs_A2 g m_Mo_rows (e + 1) 31 [(0, fs_r 226), (1, fs_i d), (2, fs_i (fs_bts r U)), (3, fs_i x)] [] M2 K := by
              intro m
              induction m with
              | zero =>
                intro x b2 M2 hx x0 o2 i2 m2 hK2
                refine L_Mo_rows_31 (by omega) ⟨fun _ => hK2 M2 o2 i2 m2, fun w => ?_⟩
                rw [(hC.out o2).1 228 0 (by unfold fs_eC; omega), hT.1] at w
                omega
              | succ m ihm =>
                intro x b2 M2 hx x0 o2 i2 m2 hK2
                have C2 := hC.out o2
                have bt := fs_bts_bit (i := x) x0 (by omega) r U r6
                have skip : (fs_okU wo U x = false ∨ x ∈ r) → fs_A2 g m_Mo_rows (e + 1) 31 [(0, fs_r 226), (1, fs_i d), (2, fs_i (fs_bts r U)), (3, fs_i (fs_w32 (x + 1)))] [] M2 K := fun q => by
                  rw [fs_hf_n q] at hK2
                  rw [fs_w32_of (by omega) (by omega)]
                  exact ihm (x + 1) b2 M2 (by omega) (by omega) o2 i2 m2 hK2
                refine L_Mo_rows_31 (by omega) ⟨fun w => ?_, fun _ => ⟨fun w => skip ?_, fun w => ⟨fun w2 => ?_, fun w2 => skip ?_⟩⟩⟩
                · rw [C2.1 228 0 (by unfold fs_eC; omega), hT.1] at w
                  omega
                · rcases bt.1 w with q | q
                  · refine Or.inl ?_
                    unfold fs_okU
                    rw [decide_eq_true q]
                    rfl
                  · exact Or.inr q
                · rw [C2.2.2.2.2.1] at w2
                  have w1 : ¬ fs_bit (fs_bts r U) x = 1 := w
                  have xk : fs_okU wo U x = true := by
                    unfold fs_okU
                    rw [decide_eq_false (fun q => w1 (bt.2 (Or.inl q))), decide_eq_false w2]
                    rfl
                  have xn : x ∉ r := fun q => w1 (bt.2 (Or.inr q))
                  have xm : x ∈ fs_hf (fs_okU wo U) r (E 1 5).toNat 0 := fs_hf_in x0 (by omega) xk xn
                  have lt := fs_hf_lt xm
                  rw [fs_hf_y xk xn] at hK2
                  obtain ⟨a1, a2, a3⟩ := m2 d d0 (by omega)
                  rw [hRd] at a1 a2 a3
                  have l6 : r.length ≤ 5 := by omega
                  rw [a1]
                  have eb : fs_or (fs_bts r U) (fs_shl 1 x) = fs_bts (r ++ [x]) U := (fs_bts_snoc r U).symm
                  rw [eb, show fs_w32 (9 * d) = 9 * d from fs_w32_of (by omega) (by omega), show fs_w32 (9 * d + (r.length : Int)) = 9 * d + r.length from fs_w32_of (by omega) (by omega), fs_w32_of (x := (r.length : Int) + 1) (by omega) (by omega)]
                  refine ⟨d0, by omega, by omega, by omega, ?_⟩
                  -- the row with the house
                  generalize hM3 : fs_st (fs_st M2 251 (9 * d + (r.length : Int)) x) 252 d ((r.length : Int) + 1) = M3
                  have m3o : ∀ o k, o ≠ 251 → o ≠ 252 → M3 o k = M2 o k := fun o k q1 q2 => by rw [← hM3, fs_st_o q2, fs_st_o q1]
                  have o3 : fs_out fs_FJr M2 M3 := by
                    rw [← hM3]
                    refine (fs_out.rf.st ?_).st ?_
                    · exact Or.inr (Or.inl rfl)
                    · exact Or.inr (Or.inr rfl)
                  have rowsOther : ∀ c, 0 ≤ c → c < 3 → c ≠ d → M3 252 c = M2 252 c ∧ ∀ i, 9 * c ≤ i → i < 9 * c + 9 → M3 251 i = M2 251 i := fun c c0 c3 ne => by
                    rw [← hM3]
                    refine ⟨by rw [fs_st_k ne, fs_st_o (by decide)], fun i i0 i1 => ?_⟩
                    rw [fs_st_o (by decide), fs_st_k (by omega)]
                  have rowD : M3 252 d = (r.length : Int) + 1 ∧ M3 251 (9 * d + (r.length : Int)) = x ∧ ∀ i, i ≠ 9 * d + (r.length : Int) → M3 251 i = M2 251 i := by
                    rw [← hM3]
                    refine ⟨fs_st_s, by rw [fs_st_o (by decide), fs_st_s], fun i ne => ?_⟩
                    rw [fs_st_o (by decide), fs_st_k ne]
                  have updx : ∀ c, c ≠ d → fs_upd R d (r ++ [x]) c = R c := fun c q => by
                    unfold fs_upd
                    rw [if_neg q]
                  have updd : fs_upd R d (r ++ [x]) d = r ++ [x] := by
                    unfold fs_upd
                    rw [if_pos rfl]
                  have lrx : (r ++ [x]).length = r.length + 1 := by rw [List.length_append, List.length_singleton]
                  have hM' : fs_hasR M3 (fs_upd R d (r ++ [x])) := fun c c0 c3 => by
                    by_cases q : c = d
                    · rw [q, updd, rowD.1, lrx]
                      refine ⟨by omega, by omega, ?_⟩
                      rw [fs_lst_snoc, rowD.2.1, fs_lst_cong (f2 := M2 251) (fun i i0 i1 => rowD.2.2 i (by omega)), a3]
                    · obtain ⟨y1, y2, y3⟩ := m2 c c0 c3
                      obtain ⟨z1, z2⟩ := rowsOther c c0 c3 q
                      rw [updx c q, z1]
                      refine ⟨y1, y2, ?_⟩
                      rw [fs_lst_cong (f2 := M2 251) (fun i i0 i1 => z2 i i0 (by omega))]
                      exact y3
                  have notin : ∀ c, 0 ≤ c → c < 3 → x ∉ R c := fun c c0 c3 q => w1 ((hU x x0 (by omega)).2 ⟨c, c0, c3, q⟩)
                  have hG' : fs_good E wo (fs_upd R d (r ++ [x])) := by
                    obtain ⟨g1, g2, g3⟩ := hG
                    have sub : ∀ c h, h ∈ fs_upd R d (r ++ [x]) c → h ∈ R c ∨ (c = d ∧ h = x) := fun c h hh => by
                      by_cases q : c = d
                      · rw [q, updd] at hh
                        rcases List.mem_append.1 hh with y | y
                        · exact Or.inl (by rw [q, hRd]; exact y)
                        · rcases List.mem_cons.1 y with y | y
                          · exact Or.inr ⟨q, y⟩
                          · cases y
                      · rw [updx c q] at hh
                        exact Or.inl hh
                    refine ⟨⟨fun c c0 c9 => ⟨?_, fun h hh => ?_⟩, fun c c0 c3 c9 => ?_⟩, fun c c0 c3 => ⟨?_, fun h hh y y0 y3 ne q => ?_⟩, fun c c0 c3 h hh => ?_⟩
                    · by_cases q : c = d
                      · rw [q, updd, lrx]
                        omega
                      · rw [updx c q]
                        exact (g1.1 c c0 c9).1
                    · rcases sub c h hh with y | y
                      · exact (g1.1 c c0 c9).2 h y
                      · rw [y.2]
                        exact ⟨x0, by omega⟩
                    · rw [updx c (by omega)]
                      exact g1.2 c c0 c3 c9
                    · by_cases q : c = d
                      · rw [q, updd]
                        have := (g2 d d0 (by omega)).1
                        rw [hRd] at this
                        exact fs_nd_snoc this xn
                      · rw [updx c q]
                        exact (g2 c c0 c3).1
                    · rcases sub c h hh with u | u
                      · rcases sub y h q with v | v
                        · exact (g2 c c0 c3).2 h u y y0 y3 ne v
                        · rw [v.2] at u
                          exact notin c c0 c3 u
                      · rcases sub y h q with v | v
                        · rw [u.2] at v
                          exact notin y y0 y3 v
                        · exact ne (by rw [v.1, u.1])
                    · rcases sub c h hh with u | u
                      · exact g3 c c0 c3 h u
                      · rw [u.2]
                        exact w2
                  have hU' : fs_usd (fs_upd R d (r ++ [x])) (fs_bts (r ++ [x]) U) := fun h h0 h1 => by
                    rw [fs_bts_snoc, fs_bit_or1 x0 (by omega) h0 h1]
                    by_cases q : h = x
                    · rw [if_pos q]
                      refine ⟨fun _ => ⟨d, d0, by omega, ?_⟩, fun _ => rfl⟩
                      rw [updd, q]
                      exact List.mem_append.2 (Or.inr List.mem_cons_self)
                    · rw [if_neg q, hU h h0 h1]
                      constructor
                      · rintro ⟨c, c0, c3, y⟩
                        refine ⟨c, c0, c3, ?_⟩
                        by_cases q2 : c = d
                        · rw [q2, updd]
                          rw [q2, hRd] at y
                          exact List.mem_append.2 (Or.inl y)
                        · rw [updx c q2]
                          exact y
                      · rintro ⟨c, c0, c3, y⟩
                        refine ⟨c, c0, c3, ?_⟩
                        by_cases q2 : c = d
                        · rw [q2, updd] at y
                          rw [q2, hRd]
                          rcases List.mem_append.1 y with u | u
                          · exact u
                          · rcases List.mem_cons.1 u with u | u
                            · exact absurd u q
                            · cases u
                        · rw [updx c q2] at y
                          exact y
                  have i3 : Inv b2 M3 := hcong b2 M2 M3 i2 (fun o k q => m3o o k (fun z => q (Or.inr (Or.inl z))) (fun z => q (Or.inr (Or.inr z))))
                  refine ihn e d U (fs_upd R d (r ++ [x])) (r ++ [x]) b2 M3 _ (by omega) (by omega) (by rw [lrx]; omega) hk d0 updd (fun c a c3 => by rw [updx c (by omega)]; exact hR c a c3) hU' hG' hM' (C2.out o3) i3 (fun M4 o4 i4 m4 => ⟨rfl, ?_⟩)
                  have a4 := m4 d d0 (by omega)
                  rw [updd, lrx] at a4
                  rw [show fs_w32 (M4 252 d - 1) = (r.length : Int) by rw [a4.1, fs_w32_of (by omega) (by omega)]; omega, fs_w32_of (x := x + 1) (by omega) (by omega)]
                  have eR : (fun s => fs_enm (E 1 5).toNat wo k (d + 1) (fs_bts s U) (fs_upd (fs_upd R d (r ++ [x])) d s)) = (fun s => fs_enm (E 1 5).toNat wo k (d + 1) (fs_bts s U) (fs_upd R d s)) := by
                    funext s
                    rw [fs_upd_upd]
                  rw [eR] at i4
                  have ea : fs_fmp (fun s => fs_enm (E 1 5).toNat wo k (d + 1) (fs_bts s U) (fs_upd R d s)) (fs_fmp (fun h => fs_ext (E 1 5).toNat (fs_okU wo U) n (r ++ [h])) (x :: fs_hf (fs_okU wo U) r m (x + 1))) = fs_fmp (fun s => fs_enm (E 1 5).toNat wo k (d + 1) (fs_bts s U) (fs_upd R d s)) (fs_ext (E 1 5).toNat (fs_okU wo U) n (r ++ [x])) ++ fs_fmp (fun s => fs_enm (E 1 5).toNat wo k (d + 1) (fs_bts s U) (fs_upd R d s)) (fs_fmp (fun h => fs_ext (E 1 5).toNat (fs_okU wo U) n (r ++ [h])) (fs_hf (fs_okU wo U) r m (x + 1))) := by
                    show fs_fmp _ (fs_ext (E 1 5).toNat (fs_okU wo U) n (r ++ [x]) ++ _) = _
                    rw [fs_fmp_append]
                  rw [ea, List.foldl_append] at hK2
                  refine ihm (x + 1) _ _ (by omega) (by omega) (fs_out.st (o2.tr (o3.tr o4)) (Or.inr (Or.inr rfl))) (hcong _ M4 _ i4 (fun o k q => fs_st_o (fun z => q (Or.inr (Or.inr z))))) (fun c c0 c3 => ?_) hK2
                  by_cases q : c = d
                  · rw [q, fs_st_s, hRd]
                    refine ⟨rfl, by omega, ?_⟩
                    have t := a4.2.2
                    rw [fs_lst_snoc] at t
                    rw [fs_lst_cong (f2 := M4 251) (fun i _ _ => fs_st_o (by decide))]
                    exact (List.append_inj_left' t rfl)
                  · obtain ⟨y1, y2, y3⟩ := m4 c c0 c3
                    rw [updx c q] at y1 y2 y3
                    rw [fs_st_k q, fs_lst_cong (f2 := M4 251) (fun i _ _ => fs_st_o (by decide))]
                    exact ⟨y1, y2, y3⟩
                · rw [C2.2.2.2.2.1] at w2
                  refine Or.inl ?_
                  unfold fs_okU
                  rw [decide_eq_true w2]
                  simp
            exact loop (E 1 5).toNat 0 b1 M1 (by omega) (by decide) o1 i1 m1 hK
        · rw [hC.2.2.2.2.2.2] at w
          omega
        · have st : stop b = true := by
            cases hs : stop b with
            | true => rfl
            | false => exact absurd ((hF b M hI).2 hs) z
          refine hK M fs_out.rf ?_ hM
          rw [stopL _ b st]
          exact hI
    intro dd d V R b M K hd hk d0 hR hU hG hM hC hI hK
    have hl : (fs_hf (fs_okU wo V) [] (E 1 5).toNat 0).length ≤ 6 := by
      have := List.length_filter_le (fun h => fs_okU wo V h && !decide (h ∈ ([] : List Int))) (fs_lst (fun k => k) (E 1 5).toNat 0)
      rw [fs_lst_len] at this
      unfold fs_hf
      omega
    exact row 6 dd d V R [] b M K (by omega) hl rfl (by omega) d0 (hR d (Int.le_refl _) (by omega)) (fun e a c => hR e (by omega) c) hU hG hM hC hI hK
end MOROWS
