-- ===== signs; the class's advance =====
def fs_sgT (a b : Int) : Int := if a = 60 then (if b = 61 then 1022 else if b = 62 then 1024 else 1021) else if a = 62 then (if b = 61 then 1025 else 1026) else if a = 61 then 1023 else if a = 43 then 1027 else if a = 45 then 1028 else if a = 42 then 1029 else if a = 47 then 1030 else if a = 40 then 1031 else if a = 41 then 1032 else if a = 59 then 1033 else 1036
def fs_sgB (a b : Int) : Int := if a = 60 then (if b = 61 then 2 else if b = 62 then 2 else 1) else if a = 62 then (if b = 61 then 2 else 1) else 1
/-- where the token behind place i stands; what it is; where it ends -/
def fs_lxp (T : Int → Int) (E i : Int) : Int := fs_scan fs_isp T E (E - i).toNat i
def fs_lxt (T : Int → Int) (E p : Int) : Int := if E ≤ p then 1035 else if fs_ilt (T p) = true then (if fs_scan fs_ilt T E (E - p).toNat p - p ≤ 6 then fs_tsr (fs_wcd T E p (E - p).toNat p 0) 37 0 else 1036) else if fs_idg (T p) = true then 1017 else fs_sgT (T p) (if E ≤ p + 1 then 0 else T (p + 1))
def fs_lxq (T : Int → Int) (E p : Int) : Int := if E ≤ p then p else if fs_ilt (T p) = true then fs_scan fs_ilt T E (E - p).toNat p else if fs_idg (T p) = true then fs_scan fs_idg T E (E - p).toNat p else p + fs_sgB (T p) (if E ≤ p + 1 then 0 else T (p + 1))
def fs_lxn (T : Int → Int) (E p : Int) : Int := fs_dnum T E (E - p).toNat p 0
def fs_lxl (T : Int → Int) (E p : Int) : Int := fs_wcd T E p (E - p).toNat p 0
section ADVC
variable {g : fs_G} {M : fs_M}
theorem sp_readSign {K : fs_K} {a b p : Int} (hp : M 29 6 = p) (p0 : 0 ≤ p) (p1 : p ≤ 600) (hK : ∀ M', fs_out (fun o k => o = 29 ∧ (k = 6 ∨ k = 7)) M M' → M' 29 6 = p + fs_sgB a b → M' 29 7 = fs_sgT a b → K none M') : fs_C2 g m_Reader_readSign 1 [fs_r 29, fs_i a, fs_i b] M K := by
  have fin : ∀ t n, fs_sgT a b = t → fs_sgB a b = n → n = 1 ∨ n = 2 → fs_A2 g m_Reader_readSign 1 281 [(0, fs_r 29), (3, fs_i n)] [] (fs_st M 29 7 t) K := fun t n ht hn h12 => by
    refine L_Reader_readSign_281 ?_
    rw [fs_st_k (show (6 : Int) ≠ 7 by omega), hp, fs_w32_of (x := p + n) (by omega) (by omega)]
    refine hK _ ((fs_out.rf.st ⟨rfl, Or.inr rfl⟩).st ⟨rfl, Or.inl rfl⟩) (by rw [fs_st_s, hn]) ?_
    rw [fs_st_k (by omega), ht]
    exact fs_st_s
  refine E_Reader_readSign ⟨fun z => ⟨fun y => L_Reader_readSign_125 ⟨fun w => absurd y w, fun _ => fin _ _ ?_ ?_ (Or.inr rfl)⟩, fun y => ⟨fun w => L_Reader_readSign_125 ⟨fun _ => ⟨fun _ => fin _ _ ?_ ?_ (Or.inl rfl), fun v => absurd v w⟩, fun v => absurd v y⟩, fun w => L_Reader_readSign_125 ⟨fun _ => ⟨fun v => absurd w v, fun _ => fin _ _ ?_ ?_ (Or.inr rfl)⟩, fun v => absurd v y⟩⟩⟩,
    fun z => ⟨fun y => L_Reader_readSign_171 ⟨fun _ => fin _ _ ?_ ?_ (Or.inl rfl), fun v => absurd v y⟩, fun y => L_Reader_readSign_171 ⟨fun v => absurd y v, fun _ => fin _ _ ?_ ?_ (Or.inr rfl)⟩⟩,
    fun z => fin _ _ ?_ ?_ (Or.inl rfl), fun z => fin _ _ ?_ ?_ (Or.inl rfl), fun z => fin _ _ ?_ ?_ (Or.inl rfl), fun z => fin _ _ ?_ ?_ (Or.inl rfl), fun z => fin _ _ ?_ ?_ (Or.inl rfl), fun z => fin _ _ ?_ ?_ (Or.inl rfl), fun z => fin _ _ ?_ ?_ (Or.inl rfl), fun z => fin _ _ ?_ ?_ (Or.inl rfl), fun z => fin _ _ ?_ ?_ (Or.inl rfl)⟩
  all_goals first
    | (unfold fs_sgT; simp_all; done)
    | (unfold fs_sgB; simp_all; done)
theorem sp_advance {K : fs_K} {E i : Int} (hE : M 29 5 = E) (hi : M 29 6 = i) (i0 : 0 ≤ i) (i1 : i ≤ E) (E1 : E ≤ 600)
    (hK : ∀ M', fs_out (fun o k => o = 29 ∧ 6 ≤ k ∧ k ≤ 10) M M' → M' 29 8 = fs_lxp (M 30) E i → M' 29 6 = fs_lxq (M 30) E (fs_lxp (M 30) E i) → M' 29 7 = fs_lxt (M 30) E (fs_lxp (M 30) E i) →
      (fs_lxp (M 30) E i < E → fs_ilt (M 30 (fs_lxp (M 30) E i)) = true → M' 29 10 = fs_lxl (M 30) E (fs_lxp (M 30) E i)) → (fs_lxp (M 30) E i < E → fs_ilt (M 30 (fs_lxp (M 30) E i)) = false → fs_idg (M 30 (fs_lxp (M 30) E i)) = true → M' 29 9 = fs_lxn (M 30) E (fs_lxp (M 30) E i)) → K none M') : fs_C2 g m_Reader_advance 3 [fs_r 29] M K := by
  obtain ⟨p, hp⟩ : ∃ p, fs_lxp (M 30) E i = p := ⟨_, rfl⟩
  have pb : i ≤ p ∧ p ≤ E := by
    rw [← hp]
    exact fs_scan_b _ _ i1
  rw [hp] at hK
  have l52 : ∀ N, fs_out (fun o k => o = 29 ∧ k = 6) M N → N 29 6 = p → fs_A2 g m_Reader_advance 3 52 [(0, fs_r 29)] [] N K := fun N oN e6 => by
    have nN : ∀ o k, ¬ (o = 29 ∧ k = 6) → N o k = M o k := oN
    have e5 : N 29 5 = E := by rw [nN 29 5 (by omega)]; exact hE
    have e30 : N 30 = M 30 := by
      funext x
      exact nN 30 x (by omega)
    refine L_Reader_advance_52 ?_
    rw [e6, e5, e30]
    obtain ⟨N2, hN2⟩ : ∃ N2, fs_st N 29 8 p = N2 := ⟨_, rfl⟩
    rw [hN2]
    have x8 : N2 29 8 = p := by rw [← hN2]; exact fs_st_s
    have x6 : N2 29 6 = p := by rw [← hN2, fs_st_k (by omega)]; exact e6
    have x5 : N2 29 5 = E := by rw [← hN2, fs_st_k (by omega)]; exact e5
    have x30 : N2 30 = M 30 := by
      rw [← e30, ← hN2]
      funext x
      exact fs_st_o (by omega)
    have o2 : fs_out (fun o k => o = 29 ∧ 6 ≤ k ∧ k ≤ 10) M N2 := by
      rw [← hN2]
      refine (fs_out.wk oN (fun o k q => ?_)).st ⟨rfl, by omega⟩
      have q2 : o = 29 ∧ k = 6 := q
      exact ⟨q2.1, by omega⟩
    have wk : ∀ {N3 : fs_M}, fs_out (fun o k => o = 29 ∧ 6 ≤ k ∧ k ≤ 10 ∧ k ≠ 8) N2 N3 → fs_out (fun o k => o = 29 ∧ 6 ≤ k ∧ k ≤ 10) M N3 ∧ N3 29 8 = p := fun {N3} o3 => by
      refine ⟨o2.tr (fs_out.wk o3 (fun o k q => ?_)), ?_⟩
      · have q2 : o = 29 ∧ 6 ≤ k ∧ k ≤ 10 ∧ k ≠ 8 := q
        exact ⟨q2.1, q2.2.1, q2.2.2.1⟩
      · rw [o3 29 8 (by omega)]
        exact x8
    refine ⟨fun lt => ⟨by omega, by omega, ?_⟩, fun ge => ?_⟩
    · have nlt : ¬ E ≤ p := by omega
      have l116 : ¬ (97 ≤ M 30 p ∧ M 30 p ≤ 122) → fs_A2 g m_Reader_advance 3 116 [(0, fs_r 29)] [] N2 K := fun nl => by
        have fl : fs_ilt (M 30 p) = false := decide_eq_false nl
        have flt : ¬ fs_ilt (M 30 p) = true := by rw [fl]; exact Bool.false_ne_true
        have l151 : ¬ (48 ≤ M 30 p ∧ M 30 p ≤ 57) → fs_A2 g m_Reader_advance 3 151 [(0, fs_r 29)] [] N2 K := fun nd => by
          have fd : fs_idg (M 30 p) = false := decide_eq_false nd
          have fdt : ¬ fs_idg (M 30 p) = true := by rw [fd]; exact Bool.false_ne_true
          have w1 : fs_w32 (p + 1) = p + 1 := fs_w32_of (by omega) (by omega)
          have fin : ∀ b, (if E ≤ p + 1 then 0 else M 30 (p + 1)) = b → fs_C2 g m_Reader_readSign 1 [fs_r 29, fs_i (M 30 p), fs_i b] N2 (fun v M3 => v = none ∧ K none M3) := fun b hb => by
            refine sp_readSign x6 (by omega) (by omega) (fun M3 o3 a6 a7 => ⟨rfl, ?_⟩)
            obtain ⟨y1, y2⟩ := wk (N3 := M3) (fs_out.wk o3 (fun o k q => by
              have q2 : o = 29 ∧ (k = 6 ∨ k = 7) := q
              exact ⟨q2.1, by omega, by omega, by omega⟩))
            refine hK M3 y1 y2 ?_ ?_ (fun _ y => absurd y flt) (fun _ _ y => absurd y fdt)
            · unfold fs_lxq
              rw [a6, if_neg nlt, if_neg flt, if_neg fdt, hb]
            · unfold fs_lxt
              rw [a7, if_neg nlt, if_neg flt, if_neg fdt, hb]
          refine L_Reader_advance_151 ?_
          rw [x6, x5, x30, w1]
          exact ⟨by omega, by omega, fun z => fin 0 (if_pos z), fun z => ⟨by omega, by omega, fin _ (if_neg z)⟩⟩
        refine L_Reader_advance_116 ?_
        rw [x6, x30]
        refine ⟨by omega, by omega, fun z => l151 (by omega), fun z => ⟨fun z2 => l151 (by omega), fun z2 => ?_⟩⟩
        have yd : fs_idg (M 30 p) = true := decide_eq_true (by omega)
        refine sp_readNumber x5 x6 (by omega) (by omega) E1 (fun M3 o3 a7 a6 a9 => ⟨rfl, ?_⟩)
        rw [x30] at a6 a9
        obtain ⟨y1, y2⟩ := wk o3
        refine hK M3 y1 y2 ?_ ?_ (fun _ y => absurd y flt) (fun _ _ _ => a9)
        · unfold fs_lxq
          rw [a6, if_neg nlt, if_neg flt, if_pos yd]
        · unfold fs_lxt
          rw [a7, if_neg nlt, if_neg flt, if_pos yd]
      refine ⟨fun z => l116 (by omega), fun z => ⟨fun z2 => l116 (by omega), fun z2 => ?_⟩⟩
      have yl : fs_ilt (M 30 p) = true := decide_eq_true (by omega)
      refine sp_readWord x5 x6 x8 (by omega) (by omega) E1 (fun M3 o3 a6 a10 a7 => ⟨rfl, ?_⟩)
      rw [x30] at a6 a10 a7
      obtain ⟨y1, y2⟩ := wk o3
      refine hK M3 y1 y2 ?_ ?_ (fun _ _ => a10) (fun _ y => absurd (yl.symm.trans y) (by decide))
      · unfold fs_lxq
        rw [a6, if_neg nlt, if_pos yl]
      · unfold fs_lxt
        rw [a7, if_neg nlt, if_pos yl]
    · have ge2 : E ≤ p := by omega
      refine hK _ (o2.st ⟨rfl, by omega⟩) ?_ ?_ ?_ (fun y => absurd y (by omega)) (fun y => absurd y (by omega))
      · rw [fs_st_k (by omega)]
        exact x8
      · unfold fs_lxq
        rw [fs_st_k (by omega), if_pos ge2]
        exact x6
      · unfold fs_lxt
        rw [fs_st_s, if_pos ge2]
  have bd : ∀ (n : Nat) (j : Int) (N : fs_M), i ≤ j → j ≤ E → E - j = n → fs_out (fun o k => o = 29 ∧ k = 6) M N → N 29 6 = j → fs_scan fs_isp (M 30) E n j = p → ((N 29 5 ≤ N 29 6 → fs_A2 g m_Reader_advance 3 52 [(0, fs_r 29)] [] N K) ∧ (¬ N 29 5 ≤ N 29 6 → (0 ≤ N 29 6 ∧ N 29 6 < 600 ∧ ((N 30 (N 29 6) = 32 → fs_A2 g m_Reader_advance 3 39 [(0, fs_r 29)] [] N K) ∧ (¬ N 30 (N 29 6) = 32 → ((¬ N 30 (N 29 6) = 10 → fs_A2 g m_Reader_advance 3 52 [(0, fs_r 29)] [] N K) ∧ (N 30 (N 29 6) = 10 → fs_A2 g m_Reader_advance 3 39 [(0, fs_r 29)] [] N K))))))) := by
    intro n
    induction n with
    | zero =>
      intro j N j0 j1 hn oN e6 sc
      have e5 : N 29 5 = E := by rw [oN 29 5 (by omega)]; exact hE
      have sc2 : j = p := sc
      exact ⟨fun _ => l52 N oN (by rw [e6]; exact sc2), fun z => absurd z (by omega)⟩
    | succ n ih =>
      intro j N j0 j1 hn oN e6 sc
      have e5 : N 29 5 = E := by rw [oN 29 5 (by omega)]; exact hE
      have e30 : N 30 j = M 30 j := oN 30 j (by omega)
      rw [e5, e6, e30]
      have more : M 30 j = 32 ∨ M 30 j = 10 → fs_A2 g m_Reader_advance 3 39 [(0, fs_r 29)] [] N K := fun q => by
        have y : fs_isp (M 30 j) = true := decide_eq_true q
        rw [fs_scan_y (by omega) y] at sc
        refine L_Reader_advance_39 (L_Reader_advance_0 ?_)
        rw [e6, fs_w32_of (x := j + 1) (by omega) (by omega)]
        exact ih (j + 1) _ (by omega) (by omega) (by omega) (oN.st ⟨rfl, rfl⟩) fs_st_s sc
      refine ⟨fun z => absurd z (by omega), fun _ => ⟨by omega, by omega, fun z => more (Or.inl z), fun z => ⟨fun z2 => ?_, fun z2 => more (Or.inr z2)⟩⟩⟩
      have nn : ¬ (j < E ∧ fs_isp (M 30 j) = true) := fun c => by
        have c2 := of_decide_eq_true c.2
        omega
      rw [fs_scan_n nn] at sc
      exact l52 N oN (by rw [e6]; exact sc)
  exact E_Reader_advance (bd (E - i).toNat i M (by omega) i1 (by omega) fs_out.rf hi hp)
end ADVC
