-- ===== mosts; the best gain; the first of the best rows =====
theorem fs_below : ∀ H : Nat, H ≤ 6 → ∀ F : Nat, F < 64 → (F : Int) < fs_p2 H → ∀ n : Nat, n < 6 → fs_bit (F : Int) (n : Int) = 1 → n < H := by decide +kernel
theorem fs_ev1_bits {E : fs_M} (hB : fs_bE E) {F : Int} (F0 : 0 ≤ F) (F1 : F ≤ fs_ev1 E) : F < 64 ∧ ∀ h : Int, 0 ≤ h → h < 6 → fs_bit F h = 1 → h < E 1 5 := by
  have h5 := hB.1
  have h6 := hB.2.1
  obtain ⟨a, b, _, _⟩ := fs_ev1_b hB
  refine ⟨by omega, fun h h0 h1 hb => ?_⟩
  have := fs_below (E 1 5).toNat (by omega) F.toNat (by omega) (by
    rw [show ((F.toNat : Nat) : Int) = F by omega, show (((E 1 5).toNat : Nat) : Int) = E 1 5 by omega]
    unfold fs_ev1 at F1
    omega) h.toNat (by omega) (by
    rw [show ((F.toNat : Nat) : Int) = F by omega, show ((h.toNat : Nat) : Int) = h by omega]
    exact hb)
  omega
theorem fs_mn_b {E : fs_M} (hB : fs_bE E) {F s : Int} (F0 : 0 ≤ F) (F1 : F ≤ fs_ev1 E) : 0 ≤ fs_mn F s ∧ fs_mn F s ≤ fs_ev1 E := by
  obtain ⟨a, b, _, e⟩ := fs_ev1_b hB
  obtain ⟨f1, f2⟩ := fs_ev1_bits hB F0 F1
  obtain ⟨c, d⟩ := fs_and_b (y := fs_xor s (-1)) F0 f1
  refine ⟨c, fs_sub_le c d a b (fun h h0 h1 hb => ?_)⟩
  unfold fs_mn at hb
  rw [fs_bit_mn h0 h1] at hb
  by_cases q : fs_bit F h = 1 ∧ fs_bit s h ≠ 1
  · exact (e h h0 h1).2 (f2 h h0 h1 q.1)
  · rw [if_neg q] at hb
    omega
theorem fs_Vw_b {E : fs_M} (hB : fs_bE E) {w : Int → Int} (hwb : ∀ h, 0 ≤ h → h < 6 → 0 ≤ w h ∧ w h ≤ 99) (d : Int) (r : List Int) : 0 ≤ fs_Vw E w d r ∧ fs_Vw E w d r ≤ 594 := by
  have h5 := hB.1
  have h6 := hB.2.1
  have := fs_sum_b (f := fs_itm E (-1) (E 31 2) (fs_alN E) d r) hwb (E 1 5).toNat (by omega)
  unfold fs_Vw
  omega
theorem fs_Bmw_b {E : fs_M} (hB : fs_bE E) {w : Int → Int} (hwb : ∀ h, 0 ≤ h → h < 6 → 0 ≤ w h ∧ w h ≤ 99) (k : Nat) (d F : Int) (hk : k ≤ 3) : 0 ≤ fs_Bm (fs_RS E) (fs_Vw E w) k d F ∧ fs_Bm (fs_RS E) (fs_Vw E w) k d F ≤ 1782 := by
  have a := fs_Bm_b (RS := fs_RS E) (V := fs_Vw E w) (c := 594) (by decide) (fun d r _ => (fs_Vw_b hB hwb d r).2) k d F
  have b := fs_Bm_0 (RS := fs_RS E) (V := fs_Vw E w) (k := k) (d := d) (F := F)
  omega
def fs_FD (o : Int) : Prop := 72 ≤ o ∧ o ≤ 82
section WEIGH
variable {g : fs_G}
theorem sp_mostWithin {E M : fs_M} {K : fs_K} {w : Int → Int} {d F : Int} {k : Nat} (hB : fs_bE E) (hk : k < 3) (d0 : 0 ≤ d) (d3 : d < 3) (hwb : ∀ h, 0 ≤ h → h < 6 → 0 ≤ w h ∧ w h ≤ 99) (F0 : 0 ≤ F) (F1 : F ≤ fs_ev1 E)
    (hT : ∀ s, 0 ≤ s → s < 64 → M (74 + d) s = fs_mx (fs_Vw E w d) ((fs_RS E).filter (fun r => decide (fs_bts r 0 = s)))) (hM : ∀ G, 0 ≤ G → G ≤ fs_ev1 E → M (78 + (d + 1)) G = fs_Bm (fs_RS E) (fs_Vw E w) k (d + 1) G)
    (hK : K (some (fs_i (fs_Bm (fs_RS E) (fs_Vw E w) (k + 1) d F))) M) : fs_C2 g m_Book_mostWithin 2 [fs_r 60, fs_i d, fs_i F] M K := by
  obtain ⟨f1, f2⟩ := fs_ev1_bits hB F0 F1
  have eq := fs_by_sets hB (V := fs_Vw E w d) (B := fs_Bm (fs_RS E) (fs_Vw E w) k (d + 1)) (F := F) (fun r _ => (fs_Vw_b hB hwb d r).1) (fun x => fs_Bm_0) F0 f1 f2
  have gb : ∀ s, 0 ≤ fs_mx (fs_Vw E w d) ((fs_RS E).filter (fun r => decide (fs_bts r 0 = s))) + fs_Bm (fs_RS E) (fs_Vw E w) k (d + 1) (fs_mn F s) ∧ fs_mx (fs_Vw E w d) ((fs_RS E).filter (fun r => decide (fs_bts r 0 = s))) + fs_Bm (fs_RS E) (fs_Vw E w) k (d + 1) (fs_mn F s) ≤ 2376 := fun s => by
    have a := fs_mx_0 (f := fs_Vw E w d) ((fs_RS E).filter (fun r => decide (fs_bts r 0 = s)))
    have b := fs_mx_le (f := fs_Vw E w d) (c := 594) (by decide) (l := (fs_RS E).filter (fun r => decide (fs_bts r 0 = s))) (fun r _ => (fs_Vw_b hB hwb d r).2)
    have c := fs_Bmw_b hB hwb k (d + 1) (fs_mn F s) (by omega)
    omega
  refine E_Book_mostWithin ?_
  have loop : ∀ (m : Nat) (n : Nat), n + m = (F + 1).toNat → fs_A2 g m_Book_mostWithin 2 5 [(0, fs_r 60), (1, fs_i d), (2, fs_i F), (3, fs_i (fs_mx (fun s => fs_mx (fs_Vw E w d) ((fs_RS E).filter (fun r => decide (fs_bts r 0 = s))) + fs_Bm (fs_RS E) (fs_Vw E w) k (d + 1) (fs_mn F s)) ((fs_lst (fun k => k) n 0).filter (fun s => fs_sb s F)))), (4, fs_i (n : Int))] [] M K := by
    intro m
    induction m with
    | zero =>
      intro n hn
      refine L_Book_mostWithin_5 ⟨fun _ => ?_, fun z => by omega⟩
      rw [show n = (F + 1).toNat by omega, eq]
      exact hK
    | succ m ih =>
      intro n hn
      have wd : fs_w32 (d + 1) = d + 1 := fs_w32_of (by omega) (by omega)
      have nx := ih (n + 1) (by omega)
      rw [fs_lst_snoc, Int.zero_add, List.filter_append] at nx
      refine L_Book_mostWithin_5 ⟨fun z => by omega, fun _ => ⟨fun z => ?_, fun z => ?_⟩⟩
      · rw [fs_wsucc (by omega)]
        rw [List.filter_cons_of_neg (by unfold fs_sb; rw [decide_eq_false z]; decide), List.filter_nil, List.append_nil] at nx
        exact nx
      · rw [fs_wsucc (by omega), wd]
        rw [List.filter_cons_of_pos (by unfold fs_sb; rw [decide_eq_true z]), List.filter_nil, fs_mx_snoc] at nx
        have mb := fs_mn_b hB (s := (n : Int)) F0 F1
        have em : fs_and F (fs_xor (n : Int) (-1)) = fs_mn F n := rfl
        have g1 := gb n
        rw [em, hT n (by omega) (by omega), hM _ mb.1 mb.2, fs_w32_of (by omega) (by omega)]
        have eb := (fs_ev1_b hB).2.1
        exact ⟨d0, by omega, by omega, by omega, by omega, by omega, mb.1, by omega, sp_maxI ⟨_, rfl, nx⟩⟩
  exact loop (F + 1).toNat 0 (by omega)
theorem sp_weighRows {E M : fs_M} {K : fs_K} {w : Int → Int} {n : Int} (hB : fs_bE E) (hE : fs_env E M) (hbk : fs_bk E M) (n0 : 0 ≤ n) (n1 : n ≤ E 1 9) (hwb : ∀ h, 0 ≤ h → h < 6 → 0 ≤ w h ∧ w h ≤ 99) (h72 : ∀ s, 0 ≤ s → s < 64 → M 72 s = fs_sum w (fs_bit s) (E 1 5).toNat)
    (hK : ∀ M', fs_out (fun o _ => 74 ≤ o ∧ o ≤ 81) M M' → fs_wg E w n M' → K none M') : fs_C2 g m_Book_weighRows 3 [fs_r 60, fs_i n] M K := by
  have h3 := hB.2.2.2.1
  have eb := fs_ev1_b hB
  refine E_Book_weighRows ?_
  have darks : ∀ (m : Nat) (d : Int) (M1 : fs_M), d + 1 = m → d < n → fs_out (fun o _ => 74 ≤ o ∧ o ≤ 81) M M1 → (∀ e, d < e → e ≤ n → ∀ F, 0 ≤ F → F ≤ fs_ev1 E → M1 (78 + e) F = fs_Bm (fs_RS E) (fs_Vw E w) (n - e).toNat e F) → fs_A2 g m_Book_weighRows 3 27 [(0, fs_r 60), (2, fs_i d)] [] M1 K := by
    intro m
    induction m with
    | zero =>
      intro d M1 hd dn o1 h1
      refine L_Book_weighRows_27 ⟨fun _ => hK M1 o1 ⟨fun s a b => ?_, fun e a b F f0 f1 => h1 e (by omega) b F f0 f1⟩, fun z => by omega⟩
      rw [o1 72 s (by omega)]
      exact h72 s a b
    | succ m ih =>
      intro d M1 hd dn o1 h1
      have env1 : fs_env E M1 := fun o k q => by
        rw [o1 o k (by unfold fs_eC at q; omega)]
        exact hE o k q
      have bk1 : fs_bk E M1 := hbk.cong h3 (fun o k q => o1 o k (by omega))
      refine L_Book_weighRows_27 ⟨fun z => by omega, fun _ => ?_⟩
      refine sp_weighRowsOf (w := w) (d := d) hB env1 bk1 (by omega) (by omega) hwb (fun s a b => by rw [o1 72 s (by omega)]; exact h72 s a b) (fun M2 o2 t2 => ⟨rfl, ?_⟩)
      have frees : ∀ (p : Nat) (F : Int) (M3 : fs_M), F + p = fs_ev1 E + 1 → 0 ≤ F → fs_out (fun o _ => o = 78 + d) M2 M3 → (∀ G, 0 ≤ G → G < F → M3 (78 + d) G = fs_Bm (fs_RS E) (fs_Vw E w) (n - d).toNat d G) → fs_A2 g m_Book_weighRows 3 38 [(0, fs_r 60), (2, fs_i d), (3, fs_i F)] [] M3 K := by
        intro p
        induction p with
        | zero =>
          intro F M3 hF F0 o3 h3
          have env3 : fs_env E M3 := fun o k q => by
            rw [o3 o k (by unfold fs_eC at q; omega), o2 o k (by unfold fs_eC at q; omega)]
            exact env1 o k q
          refine L_Book_weighRows_38 (sp_everyHouse hB env3 ⟨_, rfl, fun _ => ?_, fun z => by omega⟩)
          rw [show fs_w32 (d + -1) = d - 1 by rw [fs_w32_of (by omega) (by omega)]; omega]
          refine ih (d - 1) M3 (by omega) (by omega) (fun o k nF => ?_) (fun e a b G g0 g1 => ?_)
          · rw [o3 o k (by omega), o2 o k (by omega)]
            exact o1 o k nF
          · by_cases q : e = d
            · rw [q]
              exact h3 G g0 (by omega)
            · rw [o3 (78 + e) G (by omega), o2 (78 + e) G (by omega)]
              exact h1 e (by omega) b G g0 g1
        | succ p ihp =>
          intro F M3 hF F0 o3 h3
          have env3 : fs_env E M3 := fun o k q => by
            rw [o3 o k (by unfold fs_eC at q; omega), o2 o k (by unfold fs_eC at q; omega)]
            exact env1 o k q
          refine L_Book_weighRows_38 (sp_everyHouse hB env3 ⟨_, rfl, fun z => by omega, fun _ => ⟨by omega, by omega, ?_⟩⟩)
          have ek : (n - (d + 1)).toNat + 1 = (n - d).toNat := by omega
          refine sp_mostWithin (w := w) (k := (n - (d + 1)).toNat) hB (by omega) (by omega) (by omega) hwb F0 (by omega) (fun s a b => by rw [o3 (74 + d) s (by omega)]; exact t2 s a b) (fun G g0 g1 => ?_) ⟨_, rfl, by omega, by omega, ?_⟩
          · rw [o3 (78 + (d + 1)) G (by omega), o2 (78 + (d + 1)) G (by omega)]
            exact h1 (d + 1) (by omega) (by omega) G g0 g1
          · rw [fs_w32_of (by omega) (by omega), ek]
            refine ihp (F + 1) _ (by omega) (by omega) (o3.st rfl) (fun G g0 g1 => ?_)
            by_cases q : G = F
            · rw [q, fs_st_s]
            · rw [fs_st_k q]
              exact h3 G g0 (by omega)
      exact frees (fs_ev1 E + 1).toNat 0 M2 (by omega) (by decide) fs_out.rf (fun G a b => by omega)
  have zeros : ∀ (m : Nat) (s : Int) (M1 : fs_M), s + m = 64 → 0 ≤ s → fs_out (fun o _ => o = 78 + n) M M1 → (∀ t, 0 ≤ t → t < s → M1 (78 + n) t = 0) → fs_A2 g m_Book_weighRows 3 2 [(0, fs_r 60), (1, fs_i n), (2, fs_i s)] [] M1 K := by
    intro m
    induction m with
    | zero =>
      intro s M1 hs s0 o1 h1
      refine L_Book_weighRows_2 ⟨fun _ => ?_, fun z => by omega⟩
      rw [fs_w32_of (by omega) (by omega)]
      refine darks n.toNat (n - 1) M1 (by omega) (by omega) (o1.wk (fun o k q => ?_)) (fun e a b F f0 f1 => ?_)
      · have q2 : o = 78 + n := q
        omega
      · have en : e = n := by omega
        rw [en, show (n - n).toNat = 0 by omega]
        exact h1 F f0 (by omega)
    | succ m ih =>
      intro s M1 hs s0 o1 h1
      refine L_Book_weighRows_2 ⟨fun z => by omega, fun _ => ⟨n0, by omega, s0, ?_⟩⟩
      rw [fs_w32_of (by omega) (by omega)]
      refine ih (s + 1) _ (by omega) (by omega) (o1.st rfl) (fun t a b => ?_)
      by_cases q : t = s
      · rw [q, fs_st_s]
      · rw [fs_st_k q]
        exact h1 t a (by omega)
  exact zeros 64 0 M rfl (by decide) fs_out.rf (fun t a b => by omega)
theorem fs_gbi_b {E : fs_M} (hB : fs_bE E) {al : Int → Int} : ∀ (n : Nat), (n : Int) ≤ E 1 5 → 0 ≤ fs_gbi E al n ∧ fs_gbi E al n ≤ 99 * n
  | 0, _ => ⟨Int.le_refl 0, by show (0 : Int) ≤ 99 * 0; decide⟩
  | n + 1, hn => by
    have a := fs_gbi_b hB (al := al) n (by omega)
    have b := hB.2.2.2.2.1 n (by omega) (by omega)
    show 0 ≤ fs_gbi E al n + (if al n = 0 then 0 else E 4 n) ∧ fs_gbi E al n + (if al n = 0 then 0 else E 4 n) ≤ 99 * ((n + 1 : Nat) : Int)
    split <;> omega
theorem sp_gainByItself {E M : fs_M} {K : fs_K} (hB : fs_bE E) (hE : fs_env E M) (hbk : fs_bk E M) (hK : K (some (fs_i (fs_gbi E (fs_alN E) (E 1 5).toNat))) M) : fs_C2 g m_Book_gainByItself 2 [fs_r 60] M K := by
  have h5 := hB.1
  have h6 := hB.2.1
  have e15 : M 1 5 = E 1 5 := hE 1 5 (by unfold fs_eC; omega)
  refine E_Book_gainByItself ?_
  have loop : ∀ (n : Nat) (i : Nat), (E 1 5).toNat - i = n → i ≤ (E 1 5).toNat → fs_A2 g m_Book_gainByItself 2 4 [(0, fs_r 60), (1, fs_i (fs_gbi E (fs_alN E) i)), (2, fs_i (i : Int))] [] M K := by
    intro n
    induction n with
    | zero =>
      intro i hn hi
      refine L_Book_gainByItself_4 ⟨fun _ => ?_, fun z => by omega⟩
      rw [show i = (E 1 5).toNat by omega]
      exact hK
    | succ n ih =>
      intro i hn hi
      have nx := ih (i + 1) (by omega) (by omega)
      have gb := fs_gbi_b hB (al := fs_alN E) i (by omega)
      have b := hB.2.2.2.2.1 i (by omega) (by omega)
      have bi := hbk.2.2.2.1 i (by omega) (by omega)
      have es : fs_gbi E (fs_alN E) (i + 1) = fs_gbi E (fs_alN E) i + (if fs_alN E i = 0 then 0 else E 4 i) := rfl
      rw [es] at nx
      refine L_Book_gainByItself_4 ⟨fun z => by omega, fun _ => E_Fs_bit ⟨_, rfl, fun z => ?_, fun z => ⟨by omega, by omega, ?_⟩⟩⟩
      · have z2 : ¬ fs_bit (M 60 9) i = 1 := z
        have a0 : fs_alN E i = 0 := by
          by_cases q : fs_alN E i = 0
          · exact q
          · exact absurd (bi.2 ⟨by omega, q⟩) z2
        rw [if_pos a0] at nx
        rw [fs_wsucc (by omega), fs_w32_of (by omega) (by omega)]
        exact nx
      · have z2 : fs_bit (M 60 9) i = 1 := z
        rw [if_neg (bi.1 z2).2] at nx
        rw [fs_wsucc (by omega), hE 4 i (by unfold fs_eC; omega), fs_w32_of (by omega) (by omega)]
        exact nx
  exact loop _ 0 rfl (Nat.zero_le _)
def fs_bestV (E : fs_M) (n : Int) : Int := fs_gbi E (fs_alN E) (E 1 5).toNat + fs_Bm (fs_RS E) (fs_Vw E (fs_wW E)) n.toNat 0 (fs_ev1 E)
theorem fs_wW_b {E : fs_M} (hB : fs_bE E) : ∀ h, 0 ≤ h → h < 6 → 0 ≤ fs_wW E h ∧ fs_wW E h ≤ 99 := fun h a b => by
  unfold fs_wW
  split
  · rename_i q
    exact fs_wbd_b hB q.1 q.2
  · decide
theorem sp_bestGain {E M : fs_M} {K : fs_K} {n : Int} (hB : fs_bE E) (hE : fs_env E M) (hbk : fs_bk E M) (n0 : 0 ≤ n) (n1 : n ≤ E 1 9) (hK : ∀ M', fs_out (fun o _ => fs_FD o) M M' → K (some (fs_i (fs_bestV E n))) M') : fs_C2 g m_Book_bestGain 4 [fs_r 60, fs_i n] M K := by
  have h5 := hB.1
  have h6 := hB.2.1
  have h3 := hB.2.2.2.1
  have eb := fs_ev1_b hB
  refine E_Book_bestGain (sp_weighWorth hB hE hbk.1 (fun M1 o1 w1 => ⟨rfl, ?_⟩))
  have env1 : fs_env E M1 := fun o k q => by
    rw [o1 o k (by unfold fs_eC at q; omega)]
    exact hE o k q
  have bk1 : fs_bk E M1 := hbk.cong h3 (fun o k q => o1 o k (by omega))
  refine sp_weighRows (w := fs_wW E) hB env1 bk1 n0 n1 (fs_wW_b hB) w1 (fun M2 o2 g2 => ⟨rfl, ?_⟩)
  have env2 : fs_env E M2 := fun o k q => by
    rw [o2 o k (by unfold fs_eC at q; omega)]
    exact env1 o k q
  have bk2 : fs_bk E M2 := bk1.cong h3 (fun o k q => o2 o k (by omega))
  refine sp_gainByItself hB env2 bk2 ⟨_, rfl, sp_everyHouse hB env2 ⟨_, rfl, eb.1, eb.2.1, ?_⟩⟩
  have m78 := g2.2 0 (by decide) n0 (fs_ev1 E) eb.1 (Int.le_refl _)
  have m78' : M2 78 (fs_ev1 E) = fs_Bm (fs_RS E) (fs_Vw E (fs_wW E)) n.toNat 0 (fs_ev1 E) := by
    rw [Int.sub_zero] at m78
    exact m78
  have gb := fs_gbi_b hB (al := fs_alN E) (E 1 5).toNat (by omega)
  have bb := fs_Bmw_b hB (fs_wW_b hB) n.toNat 0 (fs_ev1 E) (by omega)
  rw [m78', fs_w32_of (by omega) (by omega)]
  exact hK M2 (fun o k nF => by
    have nF2 : ¬ (72 ≤ o ∧ o ≤ 82) := nF
    rw [o2 o k (by omega), o1 o k (by omega)])
end WEIGH
