-- ===== the class: best, chosen, many, price, all =====
def fs_FE (o k : Int) : Prop := fs_FB o k ∨ fs_FD o
/-- the cells that the book's ready state stands on -/
def fs_bkS (E M : fs_M) : Prop := M 60 5 ≠ 0 → fs_bk E M
def fs_V1 (E : fs_M) : Int → List Int → Int := fs_Vw E (fs_wW E)
def fs_chR (E : fs_M) (n i : Int) : List Int := fs_ch (fs_RS E) (fs_V1 E) n.toNat 0 (fs_ev1 E) i
def fs_vBest (E : fs_M) (a : Int) : Int := if a < 0 ∨ E 1 9 < a then -1 else fs_bestV E a
def fs_vChosen (E : fs_M) (a b c : Int) : Int := if a < 0 ∨ E 1 9 < a ∨ b < 0 ∨ a ≤ b ∨ c < 0 then -1 else if fs_nth (fs_chR E a b) c.toNat = -1 then -2 else fs_nth (fs_chR E a b) c.toNat
/-- the first n up whose best is all worth -/
def fs_mnyF (E : fs_M) : Nat → Int → Int
  | 0, _ => -2
  | k + 1, n => if fs_bestV E n = fs_whole E then n else fs_mnyF E k (n + 1)
def fs_vMany (E : fs_M) : Int := fs_mnyF E ((E 1 9).toNat + 1) 0
/-- what others bring: less what the house brings -/
def fs_oth (E : fs_M) (h x : Int) : Nat → Int
  | 0 => x
  | k + 1 => fs_oth E h x k - (if fs_itm E (-1) (E 31 2) (fs_alN E) k (fs_chR E (E 1 9) k) h = 1 then fs_wbd E (E 31 2) h else 0)
def fs_vPrice (E : fs_M) (a : Int) : Int := if a < 0 ∨ E 1 5 ≤ a then -1 else fs_Bm (fs_RS E) (fs_V1 E) (E 1 9).toNat 0 (fs_mn (fs_ev1 E) (fs_shl 1 a)) - fs_oth E a (fs_Bm (fs_RS E) (fs_V1 E) (E 1 9).toNat 0 (fs_ev1 E)) (E 1 9).toNat
/-- houses wanted that don't do themselves -/
def fs_wnt (E : fs_M) (a : Int) : Int → Int := fun h => if 0 ≤ h ∧ h < E 1 5 ∧ fs_bit a h = 1 ∧ fs_alN E h = 0 then 1 else 0
def fs_vAll (E : fs_M) (a : Int) : Int := if a < 0 ∨ fs_p2 (E 1 5) ≤ a then -1 else if fs_Bm (fs_RS E) (fs_Vw E (fs_wnt E a)) (E 1 9).toNat 0 (fs_ev1 E) = fs_sum (fs_wnt E a) (fun _ => 1) (E 1 5).toNat then 1 else 0
theorem fs_bkS.fd {E M M' : fs_M} (h3 : E 1 9 ≤ 3) (h : fs_bk E M) (ho : fs_out (fun o _ => fs_FD o) M M') : fs_bk E M' := h.cong h3 (fun o k q => ho o k (by show ¬ (72 ≤ o ∧ o ≤ 82); omega))
theorem fs_envC_FB {E M M' : fs_M} (h : fs_envC E M) (ho : fs_out fs_FB M M') : fs_envC E M' := fun o k q => by
  rw [ho o k (by unfold fs_FB fs_F5 fs_F2; unfold fs_eC at q; omega)]
  exact h o k q
theorem fs_pop6 : ∀ v : Nat, v < 64 → fs_pop (v : Int) = fs_bit (v : Int) 0 + fs_bit (v : Int) 1 + fs_bit (v : Int) 2 + fs_bit (v : Int) 3 + fs_bit (v : Int) 4 + fs_bit (v : Int) 5 := by decide +kernel
/-- a sum of ones: how many bits -/
theorem fs_pop_sum {x : Int} {n : Nat} (hn : n ≤ 6) (x0 : 0 ≤ x) (x1 : x < 64) (hx : ∀ h : Int, 0 ≤ h → h < 6 → fs_bit x h = 1 → h < n) : fs_pop x = fs_sum (fun _ => 1) (fs_bit x) n := by
  have e := fs_pop6 x.toNat (by omega)
  rw [show ((x.toNat : Nat) : Int) = x by omega] at e
  rw [e]
  have z : ∀ h : Int, 0 ≤ h → h < 6 → (n : Int) ≤ h → fs_bit x h = 0 := fun h a b c => by
    rcases fs_bit01 x h with q | q
    · exact q
    · have := hx h a b q
      omega
  have st : ∀ m : Nat, m < 6 → fs_sum (fun _ => 1) (fs_bit x) (m + 1) = fs_sum (fun _ => 1) (fs_bit x) m + fs_bit x m := fun m hm => by
    show fs_sum (fun _ => 1) (fs_bit x) m + (if fs_bit x m = 1 then 1 else 0) = _
    rcases fs_bit01 x m with q | q
    · rw [q, if_neg (by decide)]
    · rw [q, if_pos rfl]
  have s6 : fs_sum (fun _ => 1) (fs_bit x) 6 = fs_bit x 0 + fs_bit x 1 + fs_bit x 2 + fs_bit x 3 + fs_bit x 4 + fs_bit x 5 := by
    have a0 : fs_sum (fun _ => 1) (fs_bit x) 0 = 0 := rfl
    have a1 := st 0 (by decide)
    have a2 := st 1 (by decide)
    have a3 := st 2 (by decide)
    have a4 := st 3 (by decide)
    have a5 := st 4 (by decide)
    have a6 := st 5 (by decide)
    rw [a6, a5, a4, a3, a2, a1, a0]
    show 0 + fs_bit x 0 + fs_bit x 1 + fs_bit x 2 + fs_bit x 3 + fs_bit x 4 + fs_bit x 5 = _
    omega
  rw [← s6]
  have down : ∀ m : Nat, n ≤ m → m ≤ 6 → fs_sum (fun _ => 1) (fs_bit x) m = fs_sum (fun _ => 1) (fs_bit x) n := by
    intro m
    induction m with
    | zero => intro a b; rw [show n = 0 by omega]
    | succ m ih =>
      intro a b
      by_cases c : n = m + 1
      · rw [c]
      · rw [st m (by omega), z m (by omega) (by omega) (by omega), ih (by omega) (by omega)]
        omega
  exact down 6 hn (by decide)
theorem fs_wnt01 (M : fs_M) (a h : Int) : fs_wnt M a h = 0 ∨ fs_wnt M a h = 1 := by
  unfold fs_wnt
  split
  · exact Or.inr rfl
  · exact Or.inl rfl
theorem fs_wnt_lt {M : fs_M} {a h : Int} (q : fs_wnt M a h = 1) : h < M 1 5 := by
  unfold fs_wnt at q
  by_cases r : 0 ≤ h ∧ h < M 1 5 ∧ fs_bit a h = 1 ∧ fs_alN M h = 0
  · exact r.2.1
  · rw [if_neg r] at q
    exact absurd q (by decide)
theorem fs_popw {M : fs_M} {a wd : Int} (h5 : 0 ≤ M 1 5) (h6 : M 1 5 ≤ 6) (wbits : ∀ h : Int, 0 ≤ h → h < 6 → (fs_bit wd h = 1 ↔ fs_wnt M a h = 1)) : ∀ s, 0 ≤ s → s < 64 → fs_pop (fs_and s wd) = fs_sum (fs_wnt M a) (fs_bit s) (M 1 5).toNat := fun s s0 s1 => by
  obtain ⟨c0, c1⟩ := fs_and_b (x := s) (y := wd) s0 s1
  have sb : ∀ h : Int, 0 ≤ h → h < 6 → fs_bit (fs_and s wd) h = if fs_bit s h = 1 ∧ fs_bit wd h = 1 then 1 else 0 := fun h a0 a1 => by
    obtain ⟨n, rfl⟩ := Int.eq_ofNat_of_zero_le a0
    exact fs_bit_and (by omega)
  have hx : ∀ h : Int, 0 ≤ h → h < 6 → fs_bit (fs_and s wd) h = 1 → h < ((M 1 5).toNat : Nat) := fun h a0 a1 hb => by
    rw [sb h a0 a1] at hb
    by_cases q : fs_bit s h = 1 ∧ fs_bit wd h = 1
    · have t := fs_wnt_lt ((wbits h a0 a1).1 q.2)
      clear hb q
      omega
    · rw [if_neg q] at hb
      exact absurd hb (by decide)
  rw [fs_pop_sum (n := (M 1 5).toNat) (by omega) c0 c1 hx]
  have gen : ∀ n : Nat, n ≤ 6 → fs_sum (fun _ => 1) (fs_bit (fs_and s wd)) n = fs_sum (fs_wnt M a) (fs_bit s) n := by
    intro n
    induction n with
    | zero => intro _; exact (show (0 : Int) = 0 from rfl)
    | succ n ih =>
      intro hn
      show fs_sum (fun _ => 1) (fs_bit (fs_and s wd)) n + (if fs_bit (fs_and s wd) n = 1 then 1 else 0) = fs_sum (fs_wnt M a) (fs_bit s) n + (if fs_bit s n = 1 then fs_wnt M a n else 0)
      rw [ih (by omega), sb n (by omega) (by omega)]
      have w := wbits n (by omega) (by omega)
      have w01 : fs_wnt M a n = 0 ∨ fs_wnt M a n = 1 := by
        unfold fs_wnt
        split
        · exact Or.inr rfl
        · exact Or.inl rfl
      by_cases q : fs_bit s n = 1
      · rw [if_pos q]
        by_cases r : fs_bit wd n = 1
        · have e1 : (if fs_bit s n = 1 ∧ fs_bit wd n = 1 then (1 : Int) else 0) = 1 := if_pos ⟨q, r⟩
          rw [e1, if_pos rfl, w.1 r]
        · have e1 : (if fs_bit s n = 1 ∧ fs_bit wd n = 1 then (1 : Int) else 0) = 0 := if_neg (fun z => r z.2)
          rw [e1, if_neg (by decide)]
          rcases w01 with u | u
          · rw [u]
          · exact absurd (w.2 u) r
      · have e1 : (if fs_bit s n = 1 ∧ fs_bit wd n = 1 then (1 : Int) else 0) = 0 := if_neg (fun z => q z.1)
        rw [e1, if_neg (by decide), if_neg q]
  exact gen _ (by omega)
theorem fs_popall {M : fs_M} {a wd : Int} (h5 : 0 ≤ M 1 5) (h6 : M 1 5 ≤ 6) (w0 : 0 ≤ wd) (w1 : wd < 64) (wbits : ∀ h : Int, 0 ≤ h → h < 6 → (fs_bit wd h = 1 ↔ fs_wnt M a h = 1)) : fs_pop wd = fs_sum (fs_wnt M a) (fun _ => 1) (M 1 5).toNat := by
  have e := fs_popw h5 h6 wbits wd w0 w1
  have ew : fs_and wd wd = wd := by
    obtain ⟨c0, c1⟩ := fs_and_b (x := wd) (y := wd) w0 w1
    refine fs_ext6 c0 c1 w0 w1 (fun n hn => ?_)
    rw [fs_bit_and (by omega)]
    rcases fs_bit01 wd n with q | q
    · rw [q]
      rfl
    · rw [q]
      rfl
  rw [ew] at e
  rw [e]
  have gen : ∀ n : Nat, n ≤ 6 → fs_sum (fs_wnt M a) (fs_bit wd) n = fs_sum (fs_wnt M a) (fun _ => 1) n := by
    intro n
    induction n with
    | zero => intro _; exact (show (0 : Int) = 0 from rfl)
    | succ n ih =>
      intro hn
      show fs_sum (fs_wnt M a) (fs_bit wd) n + (if fs_bit wd n = 1 then fs_wnt M a n else 0) = fs_sum (fs_wnt M a) (fun _ => 1) n + (if (1 : Int) = 1 then fs_wnt M a n else 0)
      rw [ih (by omega), if_pos rfl]
      have w := wbits n (by omega) (by omega)
      by_cases r : fs_bit wd n = 1
      · rw [if_pos r]
      · rw [if_neg r]
        have w01 : fs_wnt M a n = 0 ∨ fs_wnt M a n = 1 := by
          unfold fs_wnt
          split
          · exact Or.inr rfl
          · exact Or.inl rfl
        rcases w01 with u | u
        · rw [u]
        · exact absurd (w.2 u) r
  exact gen _ (by omega)
section BESTOPS
variable {g : fs_G}
theorem sp_writeS {E M : fs_M} {K : fs_K} (hB : fs_bE E) (hp : fs_rp E 31 0) (hE : fs_envC E M) (hs : fs_bkS E M) (hK : ∀ M', fs_out fs_FB M M' → fs_envC E M' → fs_bk E M' → K none M') : fs_C2 g m_Book_write 19 [fs_r 60, fs_r 31] M K :=
  sp_write hB hp hE (fun z => ⟨hs z, hK M fs_out.rf hE (hs z)⟩) (fun M' o _ b => hK M' o (fs_envC_FB hE o) b)
theorem oc_best {M : fs_M} {K : fs_K} {a : Int} (hB : fs_bE M) (hp : fs_rp M 31 0) (hs : fs_bkS M M) (hK : ∀ M', fs_out fs_FE M M' → fs_bkS M M' → K (some (fs_i (fs_vBest M a))) M') : fs_C2 g m_Fs_best 20 [fs_r 0, fs_i a] M K := by
  have h3 := hB.2.2.2.1
  unfold fs_vBest at hK
  refine E_Fs_best ⟨fun z => ?_, fun z => ⟨fun z2 => ?_, fun z2 => ?_⟩⟩
  · have h := hK M fs_out.rf hs
    rw [if_pos (by omega)] at h
    exact h
  · refine sp_writeS hB hp (fun _ _ _ => rfl) hs (fun M1 o1 E1 b1 => ⟨rfl, ?_⟩)
    refine sp_bestGain hB E1.env b1 (by omega) z2 (fun M2 o2 => ⟨_, rfl, ?_⟩)
    have h := hK M2 ((o1.wk (fun _ _ q => Or.inl q)).tr (o2.wk (fun _ _ q => Or.inr q))) (fun _ => fs_bkS.fd h3 b1 o2)
    rw [if_neg (by omega)] at h
    exact h
  · have h := hK M fs_out.rf hs
    rw [if_pos (by omega)] at h
    exact h
theorem oc_chosen {M : fs_M} {K : fs_K} {a b c : Int} (hB : fs_bE M) (hp : fs_rp M 31 0) (hs : fs_bkS M M) (hK : ∀ M', fs_out fs_FE M M' → fs_bkS M M' → K (some (fs_i (fs_vChosen M a b c))) M') : fs_C2 g m_Fs_chosen 20 [fs_r 0, fs_i a, fs_i b, fs_i c] M K := by
  have h3 := hB.2.2.2.1
  unfold fs_vChosen at hK
  have no : (a < 0 ∨ M 1 9 < a ∨ b < 0 ∨ a ≤ b ∨ c < 0) → K (some (fs_i (-1))) M := fun q => by
    have h := hK M fs_out.rf hs
    rw [if_pos q] at h
    exact h
  refine E_Fs_chosen ⟨fun z => no (by omega), fun z => ⟨fun z2 => no (by omega), fun z2 => ⟨fun z3 => no (by omega), fun z3 => ⟨fun z4 => no (by omega), fun z4 => ⟨fun z5 => ?_, fun z5 => no (by omega)⟩⟩⟩⟩⟩
  refine sp_writeS hB hp (fun _ _ _ => rfl) hs (fun M1 o1 E1 b1 => ⟨rfl, ?_⟩)
  refine sp_chooseBest hB E1.env b1 (by omega) (by omega) (fun M2 o2 g2 c2 => ⟨rfl, by omega, ?_⟩)
  have b2 := fs_bkS.fd h3 b1 o2
  have h := hK M2 ((o1.wk (fun _ _ q => Or.inl q)).tr (o2.wk (fun _ _ q => Or.inr q))) (fun _ => b2)
  rw [if_neg (by omega)] at h
  exact sp_houseOf hB b2 (c2 b (by omega) (by omega)) z5 ⟨_, rfl, h⟩
theorem oc_many {M : fs_M} {K : fs_K} (hB : fs_bE M) (hp : fs_rp M 31 0) (hs : fs_bkS M M) (hK : ∀ M', fs_out fs_FE M M' → fs_bkS M M' → K (some (fs_i (fs_vMany M))) M') : fs_C2 g m_Fs_many 20 [fs_r 0] M K := by
  have h9 := hB.2.2.1
  have h3 := hB.2.2.2.1
  refine E_Fs_many (sp_writeS hB hp (fun _ _ _ => rfl) hs (fun M1 o1 E1 b1 => ⟨rfl, ?_⟩))
  refine sp_wholeWorth hB E1.env b1 ⟨_, rfl, ?_⟩
  have loop : ∀ (k : Nat) (n : Int) (M2 : fs_M), n + k = M 1 9 + 1 → 0 ≤ n → fs_out (fun o _ => fs_FD o) M1 M2 → fs_vMany M = fs_mnyF M k n → fs_A2 g m_Fs_many 20 21 [(0, fs_r 0), (1, fs_i (fs_whole M)), (2, fs_i n)] [] M2 K := by
    intro k
    induction k with
    | zero =>
      intro n M2 hn n0 o2 hv
      have h := hK M2 ((o1.wk (fun _ _ q => Or.inl q)).tr (o2.wk (fun _ _ q => Or.inr q))) (fun _ => fs_bkS.fd h3 b1 o2)
      rw [hv] at h
      have e19 : M2 1 9 = M 1 9 := by rw [o2 1 9 (by show ¬ (72 ≤ (1 : Int) ∧ (1 : Int) ≤ 82); omega)]; exact E1 1 9 (Or.inl (by unfold fs_eC; omega))
      refine L_Fs_many_21 ⟨fun _ => h, fun z => by omega⟩
    | succ k ih =>
      intro n M2 hn n0 o2 hv
      have b2 := fs_bkS.fd h3 b1 o2
      have env2 : fs_env M M2 := fun o k q => by
        rw [o2 o k (by show ¬ (72 ≤ o ∧ o ≤ 82); unfold fs_eC at q; omega)]
        exact E1.env o k q
      have e19 : M2 1 9 = M 1 9 := env2 1 9 (by unfold fs_eC; omega)
      refine L_Fs_many_21 ⟨fun z => by omega, fun _ => sp_bestGain hB env2 b2 n0 (by omega) (fun M3 o3 => ⟨_, rfl, fun ne => ?_, fun eq => ?_⟩)⟩
      · rw [fs_w32_of (by omega) (by omega)]
        refine ih (n + 1) M3 (by omega) (by omega) (o2.tr o3) ?_
        rw [hv]
        show (if fs_bestV M n = fs_whole M then n else fs_mnyF M k (n + 1)) = _
        rw [if_neg ne]
      · have h := hK M3 ((o1.wk (fun _ _ q => Or.inl q)).tr ((o2.tr o3).wk (fun _ _ q => Or.inr q))) (fun _ => fs_bkS.fd h3 b2 o3)
        rw [hv] at h
        have e : fs_mnyF M (k + 1) n = n := by
          show (if fs_bestV M n = fs_whole M then n else fs_mnyF M k (n + 1)) = n
          rw [if_pos eq]
        rw [e] at h
        exact h
  exact loop ((M 1 9).toNat + 1) 0 M1 (by omega) (by decide) fs_out.rf rfl
theorem fs_oth_b {E : fs_M} (hB : fs_bE E) {h x : Int} (h0 : 0 ≤ h) (h1 : h < E 1 5) : ∀ (k : Nat), fs_oth E h x k ≤ x ∧ x - 99 * k ≤ fs_oth E h x k
  | 0 => ⟨Int.le_refl _, by show x - 99 * 0 ≤ x; omega⟩
  | k + 1 => by
    have a := fs_oth_b hB (x := x) h0 h1 k
    have b := fs_wbd_b hB (hv := E 31 2) h0 h1
    show fs_oth E h x k - (if _ then _ else 0) ≤ x ∧ x - 99 * ((k + 1 : Nat) : Int) ≤ fs_oth E h x k - (if _ then _ else 0)
    split <;> omega
theorem oc_price {M : fs_M} {K : fs_K} {a : Int} (hB : fs_bE M) (hp : fs_rp M 31 0) (hs : fs_bkS M M) (hK : ∀ M', fs_out fs_FE M M' → fs_bkS M M' → K (some (fs_i (fs_vPrice M a))) M') : fs_C2 g m_Fs_price 20 [fs_r 0, fs_i a] M K := by
  have h5 := hB.1
  have h6 := hB.2.1
  have h9 := hB.2.2.1
  have h3 := hB.2.2.2.1
  have rl := fs_RS_len hB
  have eb := fs_ev1_b hB
  have hwb := fs_wW_b hB
  unfold fs_vPrice at hK
  have no : (a < 0 ∨ M 1 5 ≤ a) → K (some (fs_i (-1))) M := fun q => by
    have h := hK M fs_out.rf hs
    rw [if_pos q] at h
    exact h
  refine E_Fs_price (E_Script_hasHouse io_1 ⟨fun z => ⟨0, rfl, fun w => absurd rfl w, fun _ => no (by omega)⟩, fun z => ⟨fun z2 => ⟨0, rfl, fun w => absurd rfl w, fun _ => no (by omega)⟩, fun z2 => ⟨1, rfl, fun _ => ?_, fun w => absurd w (by decide)⟩⟩⟩)
  refine sp_writeS hB hp (fun _ _ _ => rfl) hs (fun M1 o1 E1 b1 => ⟨rfl, ?_⟩)
  refine E_Book_priceOf ?_
  rw [E1 1 9 (Or.inl (by unfold fs_eC; omega))]
  refine sp_chooseBest hB E1.env b1 h9 (Int.le_refl _) (fun M2 o2 g2 c2 => ⟨rfl, ?_⟩)
  have b2 := fs_bkS.fd h3 b1 o2
  have env2 : fs_env M M2 := fun o k q => by
    rw [o2 o k (by show ¬ (72 ≤ o ∧ o ≤ 82); unfold fs_eC at q; omega)]
    exact E1.env o k q
  have h := hK M2 ((o1.wk (fun _ _ q => Or.inl q)).tr (o2.wk (fun _ _ q => Or.inr q))) (fun _ => b2)
  rw [if_neg (by omega)] at h
  refine sp_everyHouse hB env2 ⟨_, rfl, eb.1, eb.2.1, ?_⟩
  have m78 : ∀ F, 0 ≤ F → F ≤ fs_ev1 M → M2 78 F = fs_Bm (fs_RS M) (fs_V1 M) (M 1 9).toNat 0 F := fun F f0 f1 => by
    have := g2.2 0 (by decide) h9 F f0 f1
    rw [Int.sub_zero] at this
    exact this
  rw [m78 _ eb.1 (Int.le_refl _)]
  have bb := fun F => fs_Bmw_b hB hwb (M 1 9).toNat 0 F (by omega)
  have bb1 := bb (fs_ev1 M)
  have loop : ∀ (m k : Nat), k + m = (M 1 9).toNat → fs_A2 g m_Book_priceOf 5 25 [(0, fs_r 60), (1, fs_i a), (2, fs_i (fs_oth M a (fs_Bm (fs_RS M) (fs_V1 M) (M 1 9).toNat 0 (fs_ev1 M)) k)), (3, fs_i (k : Int))] [] M2 (fun v M3 => ∃ r3, v = some (fs_i r3) ∧ K (some (fs_i r3)) M3) := by
    intro m
    induction m with
    | zero =>
      intro k hk
      have e19 : M2 1 9 = M 1 9 := env2 1 9 (by unfold fs_eC; omega)
      refine L_Book_priceOf_25 ⟨fun _ => sp_everyHouse hB env2 ⟨_, rfl, ?_⟩, fun z => by omega⟩
      have mb := fs_mn_b hB (s := fs_shl 1 a) eb.1 (Int.le_refl (fs_ev1 M))
      have em : fs_and (fs_ev1 M) (fs_xor (fs_shl 1 a) (-1)) = fs_mn (fs_ev1 M) (fs_shl 1 a) := rfl
      have bb2 : 0 ≤ fs_Bm (fs_RS M) (fs_V1 M) (M 1 9).toNat 0 (fs_mn (fs_ev1 M) (fs_shl 1 a)) ∧ fs_Bm (fs_RS M) (fs_V1 M) (M 1 9).toNat 0 (fs_mn (fs_ev1 M) (fs_shl 1 a)) ≤ 1782 := bb _
      have ob := fs_oth_b hB (h := a) (x := fs_Bm (fs_RS M) (fs_V1 M) (M 1 9).toNat 0 (fs_ev1 M)) (by omega) (by omega) k
      have bb3 : 0 ≤ fs_Bm (fs_RS M) (fs_V1 M) (M 1 9).toNat 0 (fs_ev1 M) ∧ fs_Bm (fs_RS M) (fs_V1 M) (M 1 9).toNat 0 (fs_ev1 M) ≤ 1782 := bb1
      rw [em, m78 _ mb.1 mb.2, show k = (M 1 9).toNat by omega] at *
      rw [fs_w32_of (by omega) (by omega)]
      exact ⟨mb.1, by omega, _, rfl, h⟩
    | succ m ih =>
      intro k hk
      have e19 : M2 1 9 = M 1 9 := env2 1 9 (by unfold fs_eC; omega)
      have nx := ih (k + 1) (by omega)
      obtain ⟨u, v, hu, ej⟩ := c2 k (by omega) (by omega)
      have ll : (fs_RS M).length = u.length + (v.length + 1) := by rw [hu, List.length_append, List.length_cons]
      have wk := b2.2.2.2.2.2.2 k (by omega) (by omega)
      rw [hu] at wk
      have pk := ((fs_wrt_app _ _ _).1 wk).2.1
      rw [Int.zero_add, ← ej] at pk
      have cbit := fs_col_bit (p := fs_itm M (-1) (M 31 2) (fs_alN M) k (fs_chR M (M 1 9) k)) (i := a) (by omega) (by omega) (M 1 5).toNat (by omega)
      have eo : fs_oth M a (fs_Bm (fs_RS M) (fs_V1 M) (M 1 9).toNat 0 (fs_ev1 M)) (k + 1) = fs_oth M a (fs_Bm (fs_RS M) (fs_V1 M) (M 1 9).toNat 0 (fs_ev1 M)) k - (if fs_itm M (-1) (M 31 2) (fs_alN M) k (fs_chR M (M 1 9) k) a = 1 then fs_wbd M (M 31 2) a else 0) := rfl
      rw [eo] at nx
      have bb3 : 0 ≤ fs_Bm (fs_RS M) (fs_V1 M) (M 1 9).toNat 0 (fs_ev1 M) ∧ fs_Bm (fs_RS M) (fs_V1 M) (M 1 9).toNat 0 (fs_ev1 M) ≤ 1782 := bb1
      have ob := fs_oth_b hB (h := a) (x := fs_Bm (fs_RS M) (fs_V1 M) (M 1 9).toNat 0 (fs_ev1 M)) (by omega) (by omega) k
      have wb := fs_wbd_b hB (hv := M 31 2) (h := a) (by omega) (by omega)
      refine L_Book_priceOf_25 ⟨fun z => by omega, fun _ => ⟨by omega, by omega, by omega, by omega, ?_⟩⟩
      rw [pk.2]
      refine E_Fs_bit ⟨_, rfl, fun z => ?_, fun z => ?_⟩
      · rw [if_neg (fun q => z (cbit.2 ⟨by omega, q⟩)), Int.sub_zero] at nx
        rw [fs_wsucc (by omega)]
        exact nx
      · have q := (cbit.1 z).2
        rw [if_pos q] at nx
        refine sp_worthByDark hB env2 b2.1 (by omega) (by omega) ⟨_, rfl, ?_⟩
        rw [fs_wsucc (by omega), fs_w32_of (by omega) (by omega)]
        exact nx
  exact loop (M 1 9).toNat 0 (by omega)
theorem oc_all {M : fs_M} {K : fs_K} {a : Int} (hB : fs_bE M) (hp : fs_rp M 31 0) (hs : fs_bkS M M) (hK : ∀ M', fs_out fs_FE M M' → fs_bkS M M' → K (some (fs_i (fs_vAll M a))) M') : fs_C2 g m_Fs_all 20 [fs_r 0, fs_i a] M K := by
  have h5 := hB.1
  have h6 := hB.2.1
  have h9 := hB.2.2.1
  have h3 := hB.2.2.2.1
  have eb := fs_ev1_b hB
  have p64 := fs_p2_64 h6
  have es : fs_shl 1 (M 1 5) = fs_p2 (M 1 5) := by
    have := fs_shl_p2 (M 1 5).toNat (by omega)
    rw [show (((M 1 5).toNat : Nat) : Int) = M 1 5 by omega] at this
    exact this
  unfold fs_vAll at hK
  have no : (a < 0 ∨ fs_p2 (M 1 5) ≤ a) → K (some (fs_i (-1))) M := fun q => by
    have h := hK M fs_out.rf hs
    rw [if_pos q] at h
    exact h
  refine E_Fs_all ⟨fun z => no (by omega), fun z => ⟨fun z2 => ?_, fun z2 => no (by rw [es] at z2; omega)⟩⟩
  rw [es] at z2
  refine sp_writeS hB hp (fun _ _ _ => rfl) hs (fun M1 o1 E1 b1 => ⟨rfl, ?_⟩)
  refine E_Book_canDoAll ?_
  -- what is wanted
  obtain ⟨w0, w1⟩ := fs_and_b (x := a) (y := fs_xor (M1 60 9) (-1)) (by omega) (by omega)
  have abelow : ∀ h : Int, 0 ≤ h → h < 6 → fs_bit a h = 1 → h < M 1 5 := fun h a0 a1 hb => by
    have := fs_below (M 1 5).toNat (by omega) a.toNat (by omega) (by
      rw [show ((a.toNat : Nat) : Int) = a by omega, show (((M 1 5).toNat : Nat) : Int) = M 1 5 by omega]
      exact z2) h.toNat (by omega) (by
      rw [show ((a.toNat : Nat) : Int) = a by omega, show ((h.toNat : Nat) : Int) = h by omega]
      exact hb)
    omega
  have wbits : ∀ h : Int, 0 ≤ h → h < 6 → (fs_bit (fs_and a (fs_xor (M1 60 9) (-1))) h = 1 ↔ fs_wnt M a h = 1) := fun h a0 a1 => by
    rw [fs_bit_mn a0 a1]
    have bi := b1.2.2.2.1 h a0 a1
    have al := fs_alN01 M h
    unfold fs_wnt
    by_cases q : fs_bit a h = 1
    · have hl := abelow h a0 a1 q
      by_cases r : fs_alN M h = 0
      · rw [if_pos ⟨q, fun w => (bi.1 w).2 r⟩, if_pos ⟨a0, hl, q, r⟩]
      · rw [if_neg (fun w => w.2 (bi.2 ⟨hl, r⟩)), if_neg (fun w => r w.2.2.2)]
    · rw [if_neg (fun w => q w.1), if_neg (fun w => q w.2.2.1)]
  generalize fs_and a (fs_xor (M1 60 9) (-1)) = wd at *
  have wb : ∀ h, 0 ≤ h → h < 6 → 0 ≤ fs_wnt M a h ∧ fs_wnt M a h ≤ 99 := fun h _ _ => by
    unfold fs_wnt
    split <;> decide
  have env1 := E1.env
  have popw := fs_popw h5 h6 wbits
  have popall := fs_popall h5 h6 w0 w1 wbits
  have loop : ∀ (m : Nat) (s : Int) (M2 : fs_M), s + m = 64 → 0 ≤ s → fs_out (fun o _ => o = 72) M1 M2 → (∀ t, 0 ≤ t → t < s → M2 72 t = fs_sum (fs_wnt M a) (fs_bit t) (M 1 5).toNat) → fs_A2 g m_Book_canDoAll 4 11 [(0, fs_r 60), (2, fs_i wd), (3, fs_i s)] [] M2 (fun v M3 => ∃ r2, v = some (fs_i r2) ∧ ((r2 = 0 → K (some (fs_i 0)) M3) ∧ (¬ r2 = 0 → K (some (fs_i 1)) M3))) := by
    intro m
    induction m with
    | zero =>
      intro s M2 hs s0 o2 h2
      have env2 : fs_env M M2 := fun o k q => by
        rw [o2 o k (by unfold fs_eC at q; omega)]
        exact env1 o k q
      have b2 : fs_bk M M2 := b1.cong h3 (fun o k q => o2 o k (by omega))
      refine L_Book_canDoAll_11 ⟨fun _ => ?_, fun z => by omega⟩
      rw [env2 1 9 (by unfold fs_eC; omega)]
      refine sp_weighRows (w := fs_wnt M a) hB env2 b2 h9 (Int.le_refl _) wb (fun t t0 t1 => h2 t t0 (by omega)) (fun M3 o3 g3 => ⟨rfl, ?_⟩)
      have env3 : fs_env M M3 := fun o k q => by
        rw [o3 o k (by unfold fs_eC at q; omega)]
        exact env2 o k q
      have m78 : M3 78 (fs_ev1 M) = fs_Bm (fs_RS M) (fs_Vw M (fs_wnt M a)) (M 1 9).toNat 0 (fs_ev1 M) := by
        have := g3.2 0 (by decide) h9 (fs_ev1 M) eb.1 (Int.le_refl _)
        rw [Int.sub_zero] at this
        exact this
      have fin := hK M3 ((o1.wk (fun _ _ q => Or.inl q)).tr ((fs_out.tr (o2.wk (fun o k q => by
        have q2 : o = 72 := q
        show 72 ≤ o ∧ o ≤ 82
        omega)) (o3.wk (fun o k q => by
        have q2 : 74 ≤ o ∧ o ≤ 81 := q
        show 72 ≤ o ∧ o ≤ 82
        omega))).wk (fun _ _ q => Or.inr q))) (fun _ => b2.cong h3 (fun o k q => o3 o k (by omega)))
      rw [if_neg (by omega)] at fin
      refine sp_everyHouse hB env3 ⟨_, rfl, eb.1, eb.2.1, sp_bitCount w0 w1 ⟨_, rfl, fun z => ?_, fun z => ?_⟩⟩
      · rw [m78, popall] at z
        rw [if_neg z] at fin
        exact ⟨_, rfl, fun _ => fin, fun w => absurd rfl w⟩
      · rw [m78, popall] at z
        rw [if_pos z] at fin
        exact ⟨_, rfl, fun w => absurd w (by decide), fun _ => fin⟩
    | succ m ih =>
      intro s M2 hs s0 o2 h2
      obtain ⟨c0, c1⟩ := fs_and_b (x := s) (y := wd) s0 (by omega)
      refine L_Book_canDoAll_11 ⟨fun z => by omega, fun _ => sp_bitCount c0 c1 ⟨_, rfl, s0, ?_⟩⟩
      rw [fs_w32_of (by omega) (by omega), popw s s0 (by omega)]
      refine ih (s + 1) _ (by omega) (by omega) (o2.st rfl) (fun t a b => ?_)
      by_cases q : t = s
      · rw [q, fs_st_s]
      · rw [fs_st_k q]
        exact h2 t a (by omega)
  exact loop 64 0 M1 rfl (by decide) fs_out.rf (fun t a b => by omega)
end BESTOPS
