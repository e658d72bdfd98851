-- ===== tracks: what stands; the class's tales =====
def fs_trk (M : fs_M) : Prop := M 90 4 = M 226 68 ∧ M 90 5 = M 226 69 ∧ 0 ≤ M 90 4 ∧ M 90 4 ≤ 24 ∧ -1 ≤ M 90 5 ∧ M 90 5 ≤ M 90 4 ∧
  ∀ i, 0 ≤ i → i < M 90 4 → (M 94 i = -1 ∧ M 91 i = M 265 i ∧ M 92 i = M 266 i ∧ M 93 i = M 267 i ∧ 0 ≤ M 91 i ∧ M 91 i < M 1 9 ∧ 0 ≤ M 92 i ∧ M 92 i < M 1 5 ∧ 1 ≤ M 93 i ∧ M 93 i ≤ 240) ∨ (0 ≤ M 94 i ∧ M 94 i < i ∧ M 265 i = -1 ∧ M 266 i = M 94 i)
def fs_knw (E : fs_M) : Int := if E 90 5 = -1 then E 90 4 else E 90 5
/-- what is struck, asked from the last of N on (m of them asked) -/
def fs_sk (E : fs_M) (N : Int) : Nat → Int → Int
  | 0, _ => 0
  | m + 1, x => if fs_sk E N m (N - 1 - m) = 0 ∧ E 94 (N - 1 - m) ≠ -1 then (if x = E 94 (N - 1 - m) then 1 else fs_sk E N m x) else fs_sk E N m x
theorem fs_sk01 {E : fs_M} {N : Int} : ∀ (m : Nat) (x : Int), fs_sk E N m x = 0 ∨ fs_sk E N m x = 1
  | 0, _ => Or.inl rfl
  | m + 1, x => by
    have ih := fs_sk01 (E := E) (N := N) m x
    show (if _ then (if _ then (1 : Int) else fs_sk E N m x) else fs_sk E N m x) = 0 ∨ (if _ then (if _ then (1 : Int) else fs_sk E N m x) else fs_sk E N m x) = 1
    split
    · split
      · exact Or.inr rfl
      · exact ih
    · exact ih
def fs_skF (E : fs_M) (x : Int) : Int := fs_sk E (fs_knw E) (fs_knw E).toNat x
/-- whether what f says of houses is as the tracks of d say (n of them) -/
def fs_agb (E : fs_M) (d : Int) (f : Int → Int) : Nat → Bool
  | 0 => true
  | n + 1 => fs_agb E d f n && !(decide (fs_skF E n = 0) && (decide (E 94 n = -1) && (decide (E 91 n = d) && !decide (f (E 92 n) = E 93 n))))
theorem fs_agb_down {E : fs_M} {d : Int} {f : Int → Int} {n : Nat} (h : fs_agb E d f n = false) : ∀ m : Nat, n ≤ m → fs_agb E d f m = false
  | 0, hm => by
    rw [show n = 0 by omega] at h
    exact h
  | m + 1, hm => by
    by_cases c : n = m + 1
    · rw [← c]
      exact h
    · have ih := fs_agb_down h m (by omega)
      show (fs_agb E d f m && _) = false
      rw [ih]
      rfl
theorem fs_std0 : ∀ r : Nat, r ≤ 24 → ∀ n : Nat, n < 32 → fs_bit (fs_w32 (fs_shl 1 (r : Int) - 1)) (n : Int) = if n < r then 1 else 0 := by decide +kernel
theorem fs_bit_clr {x t h : Int} (t0 : 0 ≤ t) (t1 : t < 31) (h0 : 0 ≤ h) (h1 : h < 32) : fs_bit (fs_and x (fs_xor (fs_shl 1 t) (-1))) h = if h = t then 0 else fs_bit x h := by
  obtain ⟨n, rfl⟩ := Int.eq_ofNat_of_zero_le t0
  obtain ⟨m, rfl⟩ := Int.eq_ofNat_of_zero_le h0
  rw [fs_bit_and (by omega), fs_bit_not (by omega), fs_bit_shl n (by omega) m (by omega)]
  by_cases c : m = n
  · rw [if_pos c, if_pos rfl, if_pos (show (m : Int) = n by omega), if_neg (fun q => absurd q.2 (by decide))]
  · have e : (if (0 : Int) = 1 then (0 : Int) else 1) = 1 := rfl
    rw [if_neg c, e, if_neg (show ¬ (m : Int) = n by omega)]
    rcases fs_bit01 x m with q | q
    · rw [q]
      decide
    · rw [q]
      decide
def fs_envT (E M : fs_M) : Prop := ∀ o k, 90 ≤ o ∧ o ≤ 94 → M o k = E o k
theorem fs_knw_b {E : fs_M} (hT : fs_trk E) : 0 ≤ fs_knw E ∧ fs_knw E ≤ E 90 4 ∧ fs_knw E ≤ 24 := by
  obtain ⟨a, b, c, d, e, f, _⟩ := hT
  unfold fs_knw
  split <;> omega
/-- the rows that agree -/
def fs_tlR (E : fs_M) (d : Int) : List (List Int) := (fs_RS E).filter (fun r => fs_agb E d (fs_ful E (-1) (E 31 2) (fs_alN E) d r) (fs_knw E).toNat)
def fs_nthR : List (List Int) → Nat → Option (List Int)
  | [], _ => none
  | r :: _, 0 => some r
  | _ :: t, n + 1 => fs_nthR t n
def fs_vTales (E : fs_M) (a : Int) : Int := if a < 0 ∨ E 1 9 ≤ a then -1 else (fs_tlR E a).length
def fs_vTale (E : fs_M) (a b c : Int) : Int := if a < 0 ∨ E 1 9 ≤ a ∨ b < 0 ∨ c < 0 then -1 else match fs_nthR (fs_tlR E a) b.toNat with
  | none => -3
  | some r => if fs_nth r c.toNat = -1 then -2 else fs_nth r c.toNat
section TRACKS
variable {g : fs_G}
theorem sp_knownLength {E M : fs_M} {K : fs_K} (hE : fs_envT E M) (hK : K (some (fs_i (fs_knw E))) M) : fs_C2 g m_Tracks_knownLength 1 [fs_r 90] M K := by
  unfold fs_knw at hK
  refine E_Tracks_knownLength ⟨fun z => ?_, fun z => ?_⟩
  · rw [hE 90 5 (by decide)] at z ⊢
    rw [if_neg z] at hK
    exact hK
  · rw [hE 90 5 (by decide)] at z
    rw [if_pos z] at hK
    rw [hE 90 4 (by decide)]
    exact hK
theorem sp_standing {E M : fs_M} {K : fs_K} (hT : fs_trk E) (hE : fs_envT E M) (hK : ∀ s, (∀ n, 0 ≤ n → n < 24 → (fs_bit s n = 1 ↔ n < fs_knw E ∧ fs_skF E n = 0)) → K (some (fs_i s)) M) : fs_C2 g m_Tracks_standing 2 [fs_r 90] M K := by
  obtain ⟨k0, k1, k2⟩ := fs_knw_b hT
  have hT7 := hT.2.2.2.2.2.2
  refine E_Tracks_standing (sp_knownLength hE ⟨_, rfl, sp_knownLength hE ⟨_, rfl, ?_⟩⟩)
  have loop : ∀ (j m : Nat) (s : Int), m + j = (fs_knw E).toNat → (∀ n, 0 ≤ n → n < 24 → (fs_bit s n = 1 ↔ n < fs_knw E ∧ fs_sk E (fs_knw E) m n = 0)) → fs_A2 g m_Tracks_standing 2 16 [(0, fs_r 90), (1, fs_i s), (2, fs_i (fs_knw E - 1 - m))] [] M K := by
    intro j
    induction j with
    | zero =>
      intro m s hm hs
      have em : m = (fs_knw E).toNat := by omega
      rw [em] at hs ⊢
      exact L_Tracks_standing_16 ⟨fun _ => hK s hs, fun z => by omega⟩
    | succ j ih =>
      intro m s hm hs
      have hi := hs (fs_knw E - 1 - m) (by omega) (by omega)
      have tr := hT7 (fs_knw E - 1 - m) (by omega) (by omega)
      have e94 : M 94 (fs_knw E - 1 - m) = E 94 (fs_knw E - 1 - m) := hE 94 _ (by decide)
      have w : fs_w32 (fs_knw E - 1 - m + -1) = fs_knw E - 1 - ((m + 1 : Nat) : Int) := by
        rw [fs_w32_of (by omega) (by omega)]
        omega
      have same : ¬ (fs_sk E (fs_knw E) m (fs_knw E - 1 - m) = 0 ∧ E 94 (fs_knw E - 1 - m) ≠ -1) → fs_A2 g m_Tracks_standing 2 16 [(0, fs_r 90), (1, fs_i s), (2, fs_i (fs_knw E - 1 - ((m + 1 : Nat) : Int)))] [] M K := fun q => by
        refine ih (m + 1) s (by omega) (fun n n0 n1 => ?_)
        have e : fs_sk E (fs_knw E) (m + 1) n = fs_sk E (fs_knw E) m n := by
          show (if _ then _ else fs_sk E (fs_knw E) m n) = _
          rw [if_neg q]
        rw [e]
        exact hs n n0 n1
      refine L_Tracks_standing_16 ⟨fun z => by omega, fun _ => E_Fs_bit ⟨_, rfl, fun z => ?_, fun z => ⟨by omega, fun z2 => ?_, fun z2 => ?_⟩⟩⟩
      · rw [w]
        exact same (fun q => z (hi.2 ⟨by omega, q.1⟩))
      · rw [w]
        rw [e94] at z2
        exact same (fun q => q.2 z2)
      · rw [w, e94]
        rw [e94] at z2
        have t94 : 0 ≤ E 94 (fs_knw E - 1 - m) ∧ E 94 (fs_knw E - 1 - m) < fs_knw E - 1 - m := by
          rcases tr with q | q
          · exact absurd q.1 z2
          · exact ⟨q.1, q.2.1⟩
        refine ih (m + 1) _ (by omega) (fun n n0 n1 => ?_)
        rw [fs_bit_clr t94.1 (by omega) n0 (by omega)]
        have e : fs_sk E (fs_knw E) (m + 1) n = if n = E 94 (fs_knw E - 1 - m) then 1 else fs_sk E (fs_knw E) m n := by
          show (if fs_sk E (fs_knw E) m (fs_knw E - 1 - m) = 0 ∧ E 94 (fs_knw E - 1 - m) ≠ -1 then (if n = E 94 (fs_knw E - 1 - m) then 1 else fs_sk E (fs_knw E) m n) else fs_sk E (fs_knw E) m n) = _
          rw [if_pos ⟨(hi.1 z).2, z2⟩]
        rw [e]
        by_cases c : n = E 94 (fs_knw E - 1 - m)
        · rw [if_pos c, if_pos c]
          exact ⟨fun q => absurd q (by decide), fun q => absurd q.2 (by decide)⟩
        · rw [if_neg c, if_neg c]
          exact hs n n0 n1
  have st := loop (fs_knw E).toNat 0 (fs_w32 (fs_shl 1 (fs_knw E) - 1)) (by omega) (fun n n0 n1 => by
    have b := fs_std0 (fs_knw E).toNat (by omega) n.toNat (by omega)
    rw [show (((fs_knw E).toNat : Nat) : Int) = fs_knw E by omega, show ((n.toNat : Nat) : Int) = n by omega] at b
    rw [b]
    show _ ↔ n < fs_knw E ∧ (0 : Int) = 0
    by_cases c : n.toNat < (fs_knw E).toNat
    · rw [if_pos c]
      exact ⟨fun _ => ⟨by omega, rfl⟩, fun _ => rfl⟩
    · rw [if_neg c]
      exact ⟨fun q => absurd q (by decide), fun q => by omega⟩)
  rw [show fs_w32 (fs_knw E - 1) = fs_knw E - 1 - ((0 : Nat) : Int) by rw [fs_w32_of (by omega) (by omega)]; omega]
  exact st
theorem sp_agree {E M : fs_M} {K : fs_K} {s d did : Int} {f : Int → Int} (hT : fs_trk E) (hE : fs_envT E M) (hs : ∀ n, 0 ≤ n → n < 24 → (fs_bit s n = 1 ↔ n < fs_knw E ∧ fs_skF E n = 0)) (hf : ∀ h, 0 ≤ h → h < E 1 5 → fs_mof did h = f h) (hK : K (some (fs_i (if fs_agb E d f (fs_knw E).toNat = true then 1 else 0))) M) : fs_C2 g m_Tracks_agree 2 [fs_r 90, fs_i s, fs_i d, fs_l did] M K := by
  obtain ⟨k0, k1, k2⟩ := fs_knw_b hT
  have h24 := hT.2.2.2.1
  have hT7 := hT.2.2.2.2.2.2
  refine E_Tracks_agree ?_
  have loop : ∀ (m i : Nat), i + m = (E 90 4).toNat → fs_agb E d f (min i (fs_knw E).toNat) = true → fs_A2 g m_Tracks_agree 2 3 [(0, fs_r 90), (1, fs_i s), (2, fs_i d), (3, fs_l did), (5, fs_i (i : Int))] [] M K := by
    intro m
    induction m with
    | zero =>
      intro i hi ha
      rw [show min i (fs_knw E).toNat = (fs_knw E).toNat by omega] at ha
      rw [ha, if_pos rfl] at hK
      refine L_Tracks_agree_3 ⟨fun _ => hK, fun z => ?_⟩
      rw [hE 90 4 (by decide)] at z
      omega
    | succ m ih =>
      intro i hi ha
      have tr := hT7 i (by omega) (by omega)
      have b := hs i (by omega) (by omega)
      have cont : (∀ _ : (i : Int) < fs_knw E, ¬ (fs_skF E i = 0 ∧ E 94 i = -1 ∧ E 91 i = d ∧ f (E 92 i) ≠ E 93 i)) → fs_A2 g m_Tracks_agree 2 3 [(0, fs_r 90), (1, fs_i s), (2, fs_i d), (3, fs_l did), (5, fs_i (fs_w32 ((i : Int) + 1)))] [] M K := fun q => by
        rw [fs_wsucc (by omega)]
        refine ih (i + 1) (by omega) ?_
        by_cases c : (i : Int) < fs_knw E
        · rw [show min (i + 1) (fs_knw E).toNat = i + 1 by omega]
          rw [show min i (fs_knw E).toNat = i by omega] at ha
          show (fs_agb E d f i && !(decide (fs_skF E i = 0) && (decide (E 94 i = -1) && (decide (E 91 i = d) && !decide (f (E 92 i) = E 93 i))))) = true
          rw [ha, Bool.true_and, Bool.not_eq_true']
          have nq := q c
          by_cases a1 : fs_skF E i = 0
          · by_cases a2 : E 94 i = -1
            · by_cases a3 : E 91 i = d
              · by_cases a4 : f (E 92 i) = E 93 i
                · rw [decide_eq_true a4]
                  simp
                · exact absurd ⟨a1, a2, a3, a4⟩ nq
              · rw [decide_eq_false a3]
                simp
            · rw [decide_eq_false a2]
              simp
          · rw [decide_eq_false a1]
            simp
        · rw [show min (i + 1) (fs_knw E).toNat = min i (fs_knw E).toNat by omega]
          exact ha
      refine L_Tracks_agree_3 ⟨fun z => ?_, fun _ => E_Fs_bit ⟨_, rfl, fun z => ?_, fun z => ⟨by omega, by omega, fun z2 => ?_, fun z2 => ⟨fun z3 => ?_, fun z3 => E_Book_minuteOf ⟨_, rfl, fun z4 => ?_, fun z4 => ?_⟩⟩⟩⟩⟩
      · rw [hE 90 4 (by decide)] at z
        omega
      · exact cont (fun c q => z (b.2 ⟨c, q.1⟩))
      · rw [hE 94 i (by decide)] at z2
        exact cont (fun c q => z2 q.2.1)
      · rw [hE 91 i (by decide)] at z3
        exact cont (fun c q => z3 q.2.2.1)
      · rw [hE 94 i (by decide)] at z2
        rw [hE 92 i (by decide), hE 93 i (by decide)] at z4
        have hh : 0 ≤ E 92 i ∧ E 92 i < E 1 5 := by
          rcases tr with q | q
          · exact ⟨q.2.2.2.2.2.2.1, q.2.2.2.2.2.2.2.1⟩
          · omega
        have z5 : fs_mof did (E 92 i) = E 93 i := z4
        rw [hf _ hh.1 hh.2] at z5
        exact cont (fun c q => q.2.2.2 z5)
      · rw [hE 94 i (by decide)] at z2
        rw [hE 91 i (by decide)] at z3
        rw [hE 92 i (by decide), hE 93 i (by decide)] at z4
        have hh : 0 ≤ E 92 i ∧ E 92 i < E 1 5 := by
          rcases tr with q | q
          · exact ⟨q.2.2.2.2.2.2.1, q.2.2.2.2.2.2.2.1⟩
          · omega
        have z5 : ¬ fs_mof did (E 92 i) = E 93 i := z4
        rw [hf _ hh.1 hh.2] at z5
        have bb := b.1 z
        have f1 : fs_agb E d f (i + 1) = false := by
          show (fs_agb E d f i && !(decide (fs_skF E i = 0) && (decide (E 94 i = -1) && (decide (E 91 i = d) && !decide (f (E 92 i) = E 93 i))))) = false
          rw [decide_eq_true bb.2, decide_eq_true z2, decide_eq_true z3, decide_eq_false z5]
          simp
        rw [if_neg (by rw [fs_agb_down f1 (fs_knw E).toNat (by omega)]; decide)] at hK
        exact hK
  exact loop (E 90 4).toNat 0 (by omega) (by rw [show min 0 (fs_knw E).toNat = 0 by omega]; rfl)
theorem oc_tales {M : fs_M} {K : fs_K} {a : Int} (hB : fs_bE M) (hp : fs_rp M 31 0) (hs : fs_bkS M M) (hT : fs_trk M) (hK : ∀ M', fs_out fs_FE M M' → fs_bkS M M' → K (some (fs_i (fs_vTales M a))) M') : fs_C2 g m_Fs_tales 20 [fs_r 0, fs_i a] M K := by
  have h3 := hB.2.2.2.1
  have rl := fs_RS_len hB
  unfold fs_vTales at hK
  have no : (a < 0 ∨ M 1 9 ≤ a) → K (some (fs_i (-1))) M := fun q => by
    have h := hK M fs_out.rf hs
    rw [if_pos q] at h
    exact h
  refine E_Fs_tales (E_Script_hasDark io_1 ⟨fun z => ⟨0, rfl, fun w => absurd rfl w, fun _ => no (by omega)⟩, fun z => ⟨fun z2 => ⟨0, rfl, fun w => absurd rfl w, fun _ => no (by omega)⟩, fun z2 => ⟨1, rfl, fun _ => ?_, fun w => absurd w (by decide)⟩⟩⟩)
  refine sp_writeS hB hp (fun _ _ _ => rfl) hs (fun M1 o1 E1 b1 => ⟨rfl, ?_⟩)
  have T1 : fs_envT M M1 := fun o k q => o1 o k (by unfold fs_FB fs_F5 fs_F2; omega)
  refine sp_standing hT T1 (fun s hst => ⟨_, rfl, ?_⟩)
  have loop : ∀ (b u : List (List Int)), fs_RS M = u ++ b → fs_A2 g m_Fs_tales 20 37 [(0, fs_r 0), (1, fs_i a), (2, fs_i s), (3, fs_i ((u.filter (fun r => fs_agb M a (fs_ful M (-1) (M 31 2) (fs_alN M) a r) (fs_knw M).toNat)).length : Int)), (4, fs_i (u.length : Int))] [] M1 K := by
    intro b
    induction b with
    | nil =>
      intro u hu
      rw [List.append_nil] at hu
      have h := hK M1 (o1.wk (fun _ _ q => Or.inl q)) (fun _ => b1)
      rw [if_neg (by omega)] at h
      unfold fs_tlR at h
      rw [hu] at h
      refine L_Fs_tales_37 ⟨fun _ => h, fun z => ?_⟩
      rw [b1.2.2.2.2.1, hu] at z
      omega
    | cons r t ih =>
      intro u hu
      have ll : (fs_RS M).length = u.length + (t.length + 1) := by rw [hu, List.length_append, List.length_cons]
      have fl := List.length_filter_le (fun r => fs_agb M a (fs_ful M (-1) (M 31 2) (fs_alN M) a r) (fs_knw M).toNat) u
      have wk := b1.2.2.2.2.2.2 a (by omega) (by omega)
      rw [hu] at wk
      have pk := ((fs_wrt_app _ _ _).1 wk).2.1
      rw [Int.zero_add] at pk
      have nx := ih (u ++ [r]) (by rw [hu, List.append_assoc]; rfl)
      rw [List.filter_append, List.length_append, ← fs_wlenA (a := u) (r := r) (by omega)] at nx
      refine L_Fs_tales_37 ⟨fun z => ?_, fun _ => ⟨by omega, by omega, by omega, by omega, ?_⟩⟩
      · rw [b1.2.2.2.2.1] at z
        omega
      · refine sp_agree (f := fs_ful M (-1) (M 31 2) (fs_alN M) a r) hT T1 hst (fun h x y => pk.1 h x y) ⟨_, rfl, fun z => ?_, fun z => ?_⟩
        · by_cases c : fs_agb M a (fs_ful M (-1) (M 31 2) (fs_alN M) a r) (fs_knw M).toNat = true
          · rw [if_pos c] at z
            exact absurd z (by decide)
          · rw [List.filter_cons_of_neg (p := fun (r : List Int) => fs_agb M a (fs_ful M (-1) (M 31 2) (fs_alN M) a r) (fs_knw M).toNat) c] at nx
            exact nx
        · by_cases c : fs_agb M a (fs_ful M (-1) (M 31 2) (fs_alN M) a r) (fs_knw M).toNat = true
          · rw [List.filter_cons_of_pos (p := fun (r : List Int) => fs_agb M a (fs_ful M (-1) (M 31 2) (fs_alN M) a r) (fs_knw M).toNat) c] at nx
            rw [fs_wsucc (by omega)]
            exact nx
          · rw [if_neg c] at z
            exact absurd rfl z
  exact loop (fs_RS M) [] rfl
theorem fs_nthR_app {r : List Int} : ∀ (u t : List (List Int)), fs_nthR (u ++ r :: t) u.length = some r
  | [], _ => rfl
  | _ :: u, t => fs_nthR_app u t
theorem fs_nthR_no : ∀ (u : List (List Int)) (n : Nat), u.length ≤ n → fs_nthR u n = none
  | [], _, _ => rfl
  | _ :: u, 0, h => by
    rw [List.length_cons] at h
    omega
  | _ :: u, n + 1, h => by
    rw [List.length_cons] at h
    exact fs_nthR_no u n (by omega)
theorem oc_tale {M : fs_M} {K : fs_K} {a b c : Int} (hB : fs_bE M) (hp : fs_rp M 31 0) (hs : fs_bkS M M) (hT : fs_trk M) (hK : ∀ M', fs_out fs_FE M M' → fs_bkS M M' → K (some (fs_i (fs_vTale M a b c))) M') : fs_C2 g m_Fs_tale 20 [fs_r 0, fs_i a, fs_i b, fs_i c] M K := by
  have h3 := hB.2.2.2.1
  have rl := fs_RS_len hB
  unfold fs_vTale at hK
  have no : (a < 0 ∨ M 1 9 ≤ a ∨ b < 0 ∨ c < 0) → K (some (fs_i (-1))) M := fun q => by
    have h := hK M fs_out.rf hs
    rw [if_pos q] at h
    exact h
  refine E_Fs_tale (E_Script_hasDark io_1 ⟨fun z => ⟨0, rfl, fun _ => no (by omega), fun w => absurd rfl w⟩, fun z => ⟨fun z2 => ⟨0, rfl, fun _ => no (by omega), fun w => absurd rfl w⟩, fun z2 => ⟨1, rfl, fun w => absurd w (by decide), fun _ => ⟨fun z3 => no (by omega), fun z3 => ⟨fun z4 => ?_, fun z4 => no (by omega)⟩⟩⟩⟩⟩)
  refine sp_writeS hB hp (fun _ _ _ => rfl) hs (fun M1 o1 E1 b1 => ⟨rfl, ?_⟩)
  have T1 : fs_envT M M1 := fun o k q => o1 o k (by unfold fs_FB fs_F5 fs_F2; omega)
  refine sp_standing hT T1 (fun s hst => ⟨_, rfl, ?_⟩)
  have h := hK M1 (o1.wk (fun _ _ q => Or.inl q)) (fun _ => b1)
  rw [if_neg (by omega)] at h
  have loop : ∀ (v u : List (List Int)), fs_RS M = u ++ v → (u.filter (fun r => fs_agb M a (fs_ful M (-1) (M 31 2) (fs_alN M) a r) (fs_knw M).toNat)).length ≤ b.toNat → fs_A2 g m_Fs_tale 20 47 [(0, fs_r 0), (1, fs_i a), (2, fs_i b), (3, fs_i c), (4, fs_i s), (5, fs_i ((u.filter (fun r => fs_agb M a (fs_ful M (-1) (M 31 2) (fs_alN M) a r) (fs_knw M).toNat)).length : Int)), (6, fs_i (u.length : Int))] [] M1 K := by
    intro v
    induction v with
    | nil =>
      intro u hu hl
      rw [List.append_nil] at hu
      refine L_Fs_tale_47 ⟨fun _ => ?_, fun z => ?_⟩
      · have e : fs_nthR (fs_tlR M a) b.toNat = none := by
          unfold fs_tlR
          rw [hu]
          exact fs_nthR_no _ _ hl
        rw [e] at h
        exact h
      · rw [b1.2.2.2.2.1, hu] at z
        omega
    | cons r t ih =>
      intro u hu hl
      have ll : (fs_RS M).length = u.length + (t.length + 1) := by rw [hu, List.length_append, List.length_cons]
      have fl := List.length_filter_le (fun r => fs_agb M a (fs_ful M (-1) (M 31 2) (fs_alN M) a r) (fs_knw M).toNat) u
      have wk := b1.2.2.2.2.2.2 a (by omega) (by omega)
      rw [hu] at wk
      have pk := ((fs_wrt_app _ _ _).1 wk).2.1
      rw [Int.zero_add] at pk
      have nx := ih (u ++ [r]) (by rw [hu, List.append_assoc]; rfl)
      rw [List.filter_append, List.length_append, ← fs_wlenA (a := u) (r := r) (by omega)] at nx
      refine L_Fs_tale_47 ⟨fun z => ?_, fun _ => ⟨by omega, by omega, by omega, by omega, ?_⟩⟩
      · rw [b1.2.2.2.2.1] at z
        omega
      · refine sp_agree (f := fs_ful M (-1) (M 31 2) (fs_alN M) a r) hT T1 hst (fun h x y => pk.1 h x y) ⟨_, rfl, fun z => ?_, fun z => ⟨fun ne => ?_, fun eq => ?_⟩⟩
        · by_cases q : fs_agb M a (fs_ful M (-1) (M 31 2) (fs_alN M) a r) (fs_knw M).toNat = true
          · rw [if_pos q] at z
            exact absurd z (by decide)
          · rw [List.filter_cons_of_neg (p := fun (r : List Int) => fs_agb M a (fs_ful M (-1) (M 31 2) (fs_alN M) a r) (fs_knw M).toNat) q] at nx
            exact nx hl
        · by_cases q : fs_agb M a (fs_ful M (-1) (M 31 2) (fs_alN M) a r) (fs_knw M).toNat = true
          · rw [List.filter_cons_of_pos (p := fun (r : List Int) => fs_agb M a (fs_ful M (-1) (M 31 2) (fs_alN M) a r) (fs_knw M).toNat) q] at nx
            rw [fs_wsucc (by omega)]
            exact nx (by rw [List.length_cons, List.filter_nil, List.length_nil]; omega)
          · rw [if_neg q] at z
            exact absurd rfl z
        · by_cases q : fs_agb M a (fs_ful M (-1) (M 31 2) (fs_alN M) a r) (fs_knw M).toNat = true
          · have e : fs_nthR (fs_tlR M a) b.toNat = some r := by
              unfold fs_tlR
              rw [hu, List.filter_append, List.filter_cons_of_pos (p := fun (r : List Int) => fs_agb M a (fs_ful M (-1) (M 31 2) (fs_alN M) a r) (fs_knw M).toNat) q]
              have := fs_nthR_app (r := r) (u.filter (fun r => fs_agb M a (fs_ful M (-1) (M 31 2) (fs_alN M) a r) (fs_knw M).toNat)) (t.filter (fun r => fs_agb M a (fs_ful M (-1) (M 31 2) (fs_alN M) a r) (fs_knw M).toNat))
              rw [show (u.filter (fun r => fs_agb M a (fs_ful M (-1) (M 31 2) (fs_alN M) a r) (fs_knw M).toNat)).length = b.toNat by omega] at this
              exact this
            rw [e] at h
            exact sp_houseOf (r := r) hB b1 ⟨u, t, hu, rfl⟩ z4 ⟨_, rfl, h⟩
          · rw [if_neg q] at z
            exact absurd rfl z
  exact loop (fs_RS M) [] rfl (Nat.zero_le _)
end TRACKS
