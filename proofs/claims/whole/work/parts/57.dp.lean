-- ===== the best rows by sets: what the class weighs =====
def fs_mx {α : Type} (f : α → Int) : List α → Int
  | [] => 0
  | a :: t => max (f a) (fs_mx f t)
theorem fs_mx_0 {α : Type} {f : α → Int} : ∀ (l : List α), 0 ≤ fs_mx f l
  | [] => Int.le_refl 0
  | a :: t => by
    have := fs_mx_0 (f := f) t
    show 0 ≤ max (f a) (fs_mx f t)
    omega
theorem fs_mx_ge {α : Type} {f : α → Int} {a : α} : ∀ {l : List α}, a ∈ l → f a ≤ fs_mx f l
  | [], h => by cases h
  | b :: t, h => by
    show f a ≤ max (f b) (fs_mx f t)
    rcases List.mem_cons.1 h with q | q
    · rw [q]
      omega
    · have := fs_mx_ge (f := f) q
      omega
theorem fs_mx_le {α : Type} {f : α → Int} {c : Int} (c0 : 0 ≤ c) : ∀ {l : List α}, (∀ a, a ∈ l → f a ≤ c) → fs_mx f l ≤ c
  | [], _ => c0
  | b :: t, h => by
    have h1 := h b List.mem_cons_self
    have h2 := fs_mx_le (f := f) c0 (l := t) (fun a ha => h a (List.mem_cons_of_mem _ ha))
    show max (f b) (fs_mx f t) ≤ c
    omega
theorem fs_mx_at {α : Type} {f : α → Int} : ∀ (l : List α), fs_mx f l = 0 ∨ ∃ a, a ∈ l ∧ fs_mx f l = f a
  | [] => Or.inl rfl
  | b :: t => by
    have h : fs_mx f (b :: t) = max (f b) (fs_mx f t) := rfl
    rw [h]
    rcases fs_mx_at (f := f) t with q | ⟨a, qa, qe⟩
    · by_cases c : 0 ≤ f b
      · exact Or.inr ⟨b, List.mem_cons_self, by omega⟩
      · exact Or.inl (by omega)
    · by_cases c : fs_mx f t ≤ f b
      · exact Or.inr ⟨b, List.mem_cons_self, by omega⟩
      · exact Or.inr ⟨a, List.mem_cons_of_mem _ qa, by omega⟩
theorem fs_mx_snoc {α : Type} {f : α → Int} {x : α} : ∀ (l : List α), fs_mx f (l ++ [x]) = max (fs_mx f l) (f x)
  | [] => by
    show max (f x) 0 = max 0 (f x)
    omega
  | b :: t => by
    show max (f b) (fs_mx f (t ++ [x])) = max (max (f b) (fs_mx f t)) (f x)
    rw [fs_mx_snoc t]
    omega
theorem fs_sum_b {w f : Int → Int} {c : Int} (hw : ∀ h, 0 ≤ h → h < 6 → 0 ≤ w h ∧ w h ≤ c) : ∀ (n : Nat), n ≤ 6 → 0 ≤ fs_sum w f n ∧ fs_sum w f n ≤ c * n
  | 0, _ => ⟨Int.le_refl 0, by show (0 : Int) ≤ c * 0; omega⟩
  | n + 1, hn => by
    have a := fs_sum_b (f := f) hw n (by omega)
    have b := hw n (by omega) (by omega)
    have e : c * ((n + 1 : Nat) : Int) = c * n + c := by
      rw [Int.natCast_add, Int.mul_add]
      show _ + c * 1 = _
      rw [Int.mul_one]
    show 0 ≤ fs_sum w f n + (if f n = 1 then w n else 0) ∧ fs_sum w f n + (if f n = 1 then w n else 0) ≤ c * ((n + 1 : Nat) : Int)
    rw [e]
    split <;> omega
theorem fs_sum_cong {w w2 f f2 : Int → Int} : ∀ (n : Nat), (∀ h : Int, 0 ≤ h → h < n → w h = w2 h ∧ (f h = 1 ↔ f2 h = 1)) → fs_sum w f n = fs_sum w2 f2 n
  | 0, _ => rfl
  | n + 1, h => by
    have ih := fs_sum_cong (w := w) (w2 := w2) (f := f) (f2 := f2) n (fun x a b => h x a (by omega))
    obtain ⟨h1, h2⟩ := h n (by omega) (by omega)
    show fs_sum w f n + (if f n = 1 then w n else 0) = fs_sum w2 f2 n + (if f2 n = 1 then w2 n else 0)
    rw [ih, h1]
    by_cases c : f n = 1
    · rw [if_pos c, if_pos (h2.1 c)]
    · rw [if_neg c, if_neg (fun q => c (h2.2 q))]
def fs_sb (s F : Int) : Bool := decide (fs_and s (fs_xor F (-1)) = 0)
def fs_mn (F s : Int) : Int := fs_and F (fs_xor s (-1))
theorem fs_sb_iff {s F : Int} (s0 : 0 ≤ s) (s1 : s < 64) : fs_sb s F = true ↔ ∀ h : Int, 0 ≤ h → h < 6 → fs_bit s h = 1 → fs_bit F h = 1 := by
  unfold fs_sb
  rw [decide_eq_true_iff]
  exact fs_sub0 s0 s1
theorem fs_sub_le {s F : Int} (s0 : 0 ≤ s) (s1 : s < 64) (F0 : 0 ≤ F) (F1 : F < 64) (h : ∀ h : Int, 0 ≤ h → h < 6 → fs_bit s h = 1 → fs_bit F h = 1) : s ≤ F := by
  have a := fs_bits6 s.toNat (by omega)
  have b := fs_bits6 F.toNat (by omega)
  rw [show ((s.toNat : Nat) : Int) = s by omega] at a
  rw [show ((F.toNat : Nat) : Int) = F by omega] at b
  have k : ∀ n : Int, 0 ≤ n → n < 6 → fs_bit s n ≤ fs_bit F n := fun n n0 n1 => by
    rcases fs_bit01 s n with q | q
    · rw [q]
      rcases fs_bit01 F n with w | w <;> omega
    · rw [q, h n n0 n1 q]
      decide
  have k0 := k 0 (by decide) (by decide)
  have k1 := k 1 (by decide) (by decide)
  have k2 := k 2 (by decide) (by decide)
  have k3 := k 3 (by decide) (by decide)
  have k4 := k 4 (by decide) (by decide)
  have k5 := k 5 (by decide) (by decide)
  omega
/-- the row of all houses of a set -/
theorem fs_row_of {H : Nat} (hH : H ≤ 6) {s : Int} (s0 : 0 ≤ s) (s1 : s < 64) (hs : ∀ h : Int, 0 ≤ h → h < 6 → fs_bit s h = 1 → h < H) : ∃ r, r ∈ fs_ext H fs_tt 6 [] ∧ fs_bts r 0 = s := by
  refine ⟨(fs_lst (fun k => k) H 0).filter (fun h => decide (fs_bit s h = 1)), ?_, ?_⟩
  · have := fs_ext_all (H := H) (ok := fs_tt) ((fs_lst (fun k => k) H 0).filter (fun h => decide (fs_bit s h = 1))) 6 [] (fs_filter_nd (fs_lst_id_nd H 0)) (fun h hh => ?_) ?_
    · rw [List.nil_append] at this
      exact this
    · obtain ⟨k, k0, k1, e⟩ := fs_lst_mem (List.mem_filter.1 hh).1
      exact ⟨by omega, by omega, rfl, fun q => (by cases q)⟩
    · have := List.length_filter_le (fun h => decide (fs_bit s h = 1)) (fs_lst (fun k => k) H 0)
      rw [fs_lst_len] at this
      omega
  · have mem : ∀ h, h ∈ (fs_lst (fun k => k) H 0).filter (fun h => decide (fs_bit s h = 1)) → 0 ≤ h ∧ h < 6 := fun h hh => by
      obtain ⟨k, k0, k1, e⟩ := fs_lst_mem (List.mem_filter.1 hh).1
      omega
    obtain ⟨b0, b1⟩ := fs_bts_b _ 0 mem (by decide) (by decide)
    refine fs_ext6 b0 b1 s0 s1 (fun n hn => ?_)
    have i := fs_bts_in (i := (n : Int)) (by omega) (by omega) mem
    rcases fs_bit01 s n with q | q
    · rw [q]
      rcases fs_bit01 (fs_bts ((fs_lst (fun k => k) H 0).filter (fun h => decide (fs_bit s h = 1))) 0) n with w | w
      · exact w
      · have := (List.mem_filter.1 (i.1 w)).2
        rw [decide_eq_true_iff] at this
        omega
    · rw [q]
      refine i.2 (List.mem_filter.2 ⟨fs_lst_in (fun k => k) H 0 n (by omega) ?_, by rw [decide_eq_true q]⟩)
      have := hs n (by omega) (by omega) q
      omega
theorem fs_RS_mem {E : fs_M} (hB : fs_bE E) {r : List Int} (h : r ∈ fs_RS E) : (∀ x, x ∈ r → 0 ≤ x ∧ x < E 1 5) ∧ r.Nodup ∧ r.length ≤ 6 := by
  have h5 := hB.1
  obtain ⟨a, b, c, d, _⟩ := fs_ext_mem 6 [] r h
  refine ⟨fun x hx => ?_, b List.nodup_nil, by have : r.length ≤ 0 + 6 := d; omega⟩
  rcases a x hx with q | q
  · cases q
  · omega
theorem fs_RS_6 {E : fs_M} (hB : fs_bE E) {r : List Int} (h : r ∈ fs_RS E) : ∀ x, x ∈ r → 0 ≤ x ∧ x < 6 := fun x hx => by
  have h6 := hB.2.1
  have := (fs_RS_mem hB h).1 x hx
  omega
/-- the most that the dark ones from d on (k of them) bring by houses of F -/
def fs_Bm (RS : List (List Int)) (V : Int → List Int → Int) : Nat → Int → Int → Int
  | 0, _, _ => 0
  | k + 1, d, F => fs_mx (fun r => V d r + fs_Bm RS V k (d + 1) (fs_mn F (fs_bts r 0))) (RS.filter (fun r => fs_sb (fs_bts r 0) F))
theorem fs_Bm_0 {RS : List (List Int)} {V : Int → List Int → Int} {k : Nat} {d F : Int} : 0 ≤ fs_Bm RS V k d F := by
  cases k with
  | zero => exact Int.le_refl 0
  | succ k => exact fs_mx_0 _
theorem fs_Bm_b {RS : List (List Int)} {V : Int → List Int → Int} {c : Int} (c0 : 0 ≤ c) (hV : ∀ d r, r ∈ RS → V d r ≤ c) : ∀ (k : Nat) (d F : Int), fs_Bm RS V k d F ≤ c * k
  | 0, _, _ => by
    show (0 : Int) ≤ c * 0
    omega
  | k + 1, d, F => by
    have e : c * ((k + 1 : Nat) : Int) = c * k + c := by
      rw [Int.natCast_add, Int.mul_add]
      show _ + c * 1 = _
      rw [Int.mul_one]
    have p : 0 ≤ c * (k : Int) := Int.mul_nonneg c0 (by omega)
    refine fs_mx_le (by omega) (fun r hr => ?_)
    have a := hV d r (List.mem_filter.1 hr).1
    have b := fs_Bm_b c0 hV k (d + 1) (fs_mn F (fs_bts r 0))
    try dsimp only
    omega
/-- by sets it is the same -/
theorem fs_by_sets {E : fs_M} (hB : fs_bE E) {V : List Int → Int} {B : Int → Int} {F : Int} (hV : ∀ r, r ∈ fs_RS E → 0 ≤ V r) (hB0 : ∀ x, 0 ≤ B x) (F0 : 0 ≤ F) (F1 : F < 64) (hF : ∀ h : Int, 0 ≤ h → h < 6 → fs_bit F h = 1 → h < E 1 5) :
    fs_mx (fun s => fs_mx V ((fs_RS E).filter (fun r => decide (fs_bts r 0 = s))) + B (fs_mn F s)) ((fs_lst (fun k => k) (F + 1).toNat 0).filter (fun s => fs_sb s F)) = fs_mx (fun r => V r + B (fs_mn F (fs_bts r 0))) ((fs_RS E).filter (fun r => fs_sb (fs_bts r 0) F)) := by
  have h5 := hB.1
  have h6 := hB.2.1
  apply Int.le_antisymm
  · refine fs_mx_le (fs_mx_0 _) (fun s hs => ?_)
    obtain ⟨m1, m2⟩ := List.mem_filter.1 hs
    obtain ⟨k, k0, k1, e⟩ := fs_lst_mem m1
    have s0 : 0 ≤ s := by omega
    have s1 : s < 64 := by omega
    have sub := (fs_sb_iff s0 s1).1 m2
    have pick : ∃ r, r ∈ fs_RS E ∧ fs_bts r 0 = s ∧ fs_mx V ((fs_RS E).filter (fun r => decide (fs_bts r 0 = s))) ≤ V r := by
      rcases fs_mx_at (f := V) ((fs_RS E).filter (fun r => decide (fs_bts r 0 = s))) with q | ⟨r, qa, qe⟩
      · obtain ⟨r, ra, rb⟩ := fs_row_of (H := (E 1 5).toNat) (by omega) s0 s1 (fun h h0 h1 hb => by have := hF h h0 h1 (sub h h0 h1 hb); omega)
        refine ⟨r, ra, rb, ?_⟩
        have := hV r ra
        omega
      · obtain ⟨x, y⟩ := List.mem_filter.1 qa
        exact ⟨r, x, of_decide_eq_true y, by omega⟩
    obtain ⟨r, ra, rb, rc⟩ := pick
    have := fs_mx_ge (f := fun r => V r + B (fs_mn F (fs_bts r 0))) (a := r) (l := (fs_RS E).filter (fun r => fs_sb (fs_bts r 0) F)) (List.mem_filter.2 ⟨ra, by rw [rb]; exact m2⟩)
    try dsimp only at this ⊢
    rw [rb] at this
    omega
  · refine fs_mx_le (fs_mx_0 _) (fun r hr => ?_)
    obtain ⟨m1, m2⟩ := List.mem_filter.1 hr
    obtain ⟨s0, s1⟩ := fs_bts_b r 0 (fs_RS_6 hB m1) (by decide) (by decide)
    have sub := (fs_sb_iff s0 s1).1 m2
    have le := fs_sub_le s0 s1 F0 F1 sub
    have a := fs_mx_ge (f := V) (a := r) (l := (fs_RS E).filter (fun q => decide (fs_bts q 0 = fs_bts r 0))) (List.mem_filter.2 ⟨m1, decide_eq_true rfl⟩)
    have b := fs_mx_ge (f := fun s => fs_mx V ((fs_RS E).filter (fun r => decide (fs_bts r 0 = s))) + B (fs_mn F s)) (a := fs_bts r 0) (l := (fs_lst (fun k => k) (F + 1).toNat 0).filter (fun s => fs_sb s F)) (List.mem_filter.2 ⟨fs_lst_in (fun k => k) _ 0 _ s0 (by omega), m2⟩)
    try dsimp only at b ⊢
    omega
/-- what a dark one brings by a row, of weights w -/
def fs_Vw (E : fs_M) (w : Int → Int) (d : Int) (r : List Int) : Int := fs_sum w (fs_itm E (-1) (E 31 2) (fs_alN E) d r) (E 1 5).toNat
theorem fs_Vw_col {E : fs_M} (hB : fs_bE E) {w : Int → Int} {d : Int} {r : List Int} : fs_sum w (fs_bit (fs_col (fs_itm E (-1) (E 31 2) (fs_alN E) d r) (E 1 5).toNat)) (E 1 5).toNat = fs_Vw E w d r := by
  have h5 := hB.1
  have h6 := hB.2.1
  refine fs_sum_cong _ (fun h a b => ⟨rfl, ?_⟩)
  rw [fs_col_bit a (by omega) (E 1 5).toNat (by omega)]
  exact ⟨fun q => q.2, fun q => ⟨b, q⟩⟩
def fs_ev1 (E : fs_M) : Int := fs_p2 (E 1 5) - 1
theorem fs_ev1_b {E : fs_M} (hB : fs_bE E) : 0 ≤ fs_ev1 E ∧ fs_ev1 E < 64 ∧ fs_w32 (fs_shl 1 (E 1 5) - 1) = fs_ev1 E ∧ ∀ h, 0 ≤ h → h < 6 → (fs_bit (fs_ev1 E) h = 1 ↔ h < E 1 5) := by
  have h5 := hB.1
  have h6 := hB.2.1
  obtain ⟨a, b⟩ := fs_every (E 1 5).toNat (by omega)
  have e : (((E 1 5).toNat : Nat) : Int) = E 1 5 := by omega
  rw [e] at a b
  have p64 := fs_p2_64 h6
  have p1 : 1 ≤ fs_p2 (E 1 5) := fs_p2_mono (a := 0) (by omega)
  refine ⟨by unfold fs_ev1; omega, by unfold fs_ev1; omega, a, fun h h0 h1 => ?_⟩
  have q := b h.toNat (by omega)
  rw [show ((h.toNat : Nat) : Int) = h by omega] at q
  unfold fs_ev1
  rw [q]
  by_cases c : h.toNat < (E 1 5).toNat
  · rw [if_pos c]
    exact ⟨fun _ => by omega, fun _ => rfl⟩
  · rw [if_neg c]
    exact ⟨fun z => absurd z (by decide), fun z => by omega⟩
/-- what stands when the sets are weighed for dark ones 0 .. n-1 by weights w -/
def fs_wg (E : fs_M) (w : Int → Int) (n : Int) (M : fs_M) : Prop := (∀ s, 0 ≤ s → s < 64 → M 72 s = fs_sum w (fs_bit s) (E 1 5).toNat) ∧ ∀ d, 0 ≤ d → d ≤ n → ∀ F, 0 ≤ F → F ≤ fs_ev1 E → M (78 + d) F = fs_Bm (fs_RS E) (fs_Vw E w) (n - d).toNat d F
section DP
variable {g : fs_G}
theorem sp_everyHouse {E M : fs_M} {K : fs_K} (hB : fs_bE E) (hE : fs_env E M) (hK : K (some (fs_i (fs_ev1 E))) M) : fs_C2 g m_Book_everyHouse 1 [fs_r 60] M K := by
  refine E_Book_everyHouse ?_
  rw [hE 1 5 (by unfold fs_eC; omega), (fs_ev1_b hB).2.2.1]
  exact hK
theorem sp_worthByDark {E M : fs_M} {K : fs_K} {h : Int} (hB : fs_bE E) (hE : fs_env E M) (h8 : M 60 8 = E 31 2) (h0 : 0 ≤ h) (h1 : h < E 1 5) (hK : K (some (fs_i (fs_wbd E (E 31 2) h))) M) : fs_C2 g m_Book_worthByDark 2 [fs_r 60, fs_i h] M K := by
  have h6 := hB.2.1
  unfold fs_wbd at hK
  refine E_Book_worthByDark (E_Fs_bit ⟨_, rfl, fun z => ⟨h0, by omega, ?_⟩, fun z => ⟨h0, by omega, ?_⟩⟩)
  · rw [h8] at z
    have z2 : ¬ fs_bit (E 31 2) h = 1 := z
    rw [if_neg z2] at hK
    rw [hE 4 h (by unfold fs_eC; omega)]
    exact hK
  · rw [h8] at z
    have z2 : fs_bit (E 31 2) h = 1 := z
    rw [if_pos z2] at hK
    rw [hE 4 h (by unfold fs_eC; omega)]
    exact hK
theorem fs_wbd_b {E : fs_M} (hB : fs_bE E) {hv h : Int} (h0 : 0 ≤ h) (h1 : h < E 1 5) : 0 ≤ fs_wbd E hv h ∧ fs_wbd E hv h ≤ 99 := by
  have b := hB.2.2.2.2.1 h h0 h1
  have d := fs_div2b b.2.2.1 b.2.2.2.1
  unfold fs_wbd
  split <;> omega
/-- weights that count for houses alone -/
def fs_wW (E : fs_M) : Int → Int := fun h => if 0 ≤ h ∧ h < E 1 5 then fs_wbd E (E 31 2) h else 0
theorem sp_weighWorth {E M : fs_M} {K : fs_K} (hB : fs_bE E) (hE : fs_env E M) (h8 : M 60 8 = E 31 2) (hK : ∀ M', fs_out (fun o _ => o = 72) M M' → (∀ s, 0 ≤ s → s < 64 → M' 72 s = fs_sum (fs_wW E) (fs_bit s) (E 1 5).toNat) → K none M') : fs_C2 g m_Book_weighWorth 3 [fs_r 60] M K := by
  have h5 := hB.1
  have h6 := hB.2.1
  have wb : ∀ h, 0 ≤ h → h < 6 → 0 ≤ fs_wW E h ∧ fs_wW E h ≤ 99 := fun h a b => by
    unfold fs_wW
    split
    · rename_i q
      exact fs_wbd_b hB q.1 q.2
    · decide
  refine E_Book_weighWorth ?_
  have outer : ∀ (n : Nat) (s : Int) (M1 : fs_M), s + n = 64 → 0 ≤ s → fs_out (fun o _ => o = 72) M M1 → (∀ t, 0 ≤ t → t < s → M1 72 t = fs_sum (fs_wW E) (fs_bit t) (E 1 5).toNat) → fs_A2 g m_Book_weighWorth 3 2 [(0, fs_r 60), (1, fs_i s)] [] M1 K := by
    intro n
    induction n with
    | zero =>
      intro s M1 hs s0 o1 h1
      exact L_Book_weighWorth_2 ⟨fun _ => hK M1 o1 (fun t a b => h1 t a (by omega)), fun z => by omega⟩
    | succ n ih =>
      intro s M1 hs s0 o1 h1
      refine L_Book_weighWorth_2 ⟨fun z => by omega, fun _ => ⟨s0, ?_⟩⟩
      have inner : ∀ (m : Nat) (x : Nat) (M2 : fs_M), (E 1 5).toNat - x = m → x ≤ (E 1 5).toNat → fs_out (fun o _ => o = 72) M M2 → (∀ t, 0 ≤ t → t < s → M2 72 t = fs_sum (fs_wW E) (fs_bit t) (E 1 5).toNat) → M2 72 s = fs_sum (fs_wW E) (fs_bit s) x → fs_A2 g m_Book_weighWorth 3 17 [(0, fs_r 60), (1, fs_i s), (2, fs_i (x : Int))] [] M2 K := by
        intro m
        induction m with
        | zero =>
          intro x M2 hx hx1 o2 h2 e2
          have ex : x = (E 1 5).toNat := by omega
          rw [ex] at e2
          refine L_Book_weighWorth_17 ⟨fun _ => ?_, fun z => ?_⟩
          · rw [fs_w32_of (by omega) (by omega)]
            refine ih (s + 1) M2 (by omega) (by omega) o2 (fun t a b => ?_)
            by_cases q : t = s
            · rw [q]
              exact e2
            · exact h2 t a (by omega)
          · rw [o2 1 5 (by omega), hE 1 5 (by unfold fs_eC; omega)] at z
            omega
        | succ m ihm =>
          intro x M2 hx hx1 o2 h2 e2
          have sb := fs_sum_b (w := fs_wW E) (f := fs_bit s) wb x (by omega)
          have env2 : fs_env E M2 := fun o k q => by
            rw [o2 o k (by unfold fs_eC at q; omega)]
            exact hE o k q
          have e15 : M2 1 5 = E 1 5 := env2 1 5 (by unfold fs_eC; omega)
          have wbx := wb x (by omega) (by omega)
          have next : ∀ v, v = (if fs_bit s x = 1 then fs_wW E x else 0) → fs_A2 g m_Book_weighWorth 3 17 [(0, fs_r 60), (1, fs_i s), (2, fs_i ((x + 1 : Nat) : Int))] [] (fs_st M2 72 s (fs_w32 (M2 72 s + v))) K := fun v hv => by
            have vb : 0 ≤ v ∧ v ≤ 99 := by
              rw [hv]
              split <;> omega
            rw [e2, fs_w32_of (by omega) (by omega)]
            refine ihm (x + 1) _ (by omega) (by omega) (o2.st rfl) (fun t a b => ?_) ?_
            · rw [fs_st_k (by omega)]
              exact h2 t a b
            · rw [fs_st_s, hv]
              rfl
          refine L_Book_weighWorth_17 ⟨fun z => by omega, fun _ => ⟨s0, by omega, E_Fs_bit ⟨_, rfl, fun z => ?_, fun z => ?_⟩⟩⟩
          · rw [fs_wsucc (by omega)]
            exact next 0 (by rw [if_neg (show ¬ fs_bit s x = 1 from z)])
          · rw [fs_wsucc (by omega)]
            have z2 : fs_bit s x = 1 := z
            refine sp_worthByDark hB env2 (by rw [o2 60 8 (by omega)]; exact h8) (by omega) (by omega) ⟨_, rfl, next _ ?_⟩
            rw [if_pos z2]
            unfold fs_wW
            rw [if_pos ⟨by omega, by omega⟩]
      refine inner (E 1 5).toNat 0 _ (by omega) (by omega) (o1.st rfl) (fun t a b => ?_) ?_
      · rw [fs_st_k (by omega)]
        exact h1 t a b
      · rw [fs_st_s]
        rfl
  exact outer 64 0 M rfl (by decide) fs_out.rf (fun t a b => by omega)
/-- the rows of one dark one weighed -/
theorem sp_weighRowsOf {E M : fs_M} {K : fs_K} {w : Int → Int} {d : Int} (hB : fs_bE E) (hE : fs_env E M) (hbk : fs_bk E M) (d0 : 0 ≤ d) (d1 : d < E 1 9) (hwb : ∀ h, 0 ≤ h → h < 6 → 0 ≤ w h ∧ w h ≤ 99) (h72 : ∀ s, 0 ≤ s → s < 64 → M 72 s = fs_sum w (fs_bit s) (E 1 5).toNat)
    (hK : ∀ M', fs_out (fun o _ => o = 74 + d) M M' → (∀ s, 0 ≤ s → s < 64 → M' (74 + d) s = fs_mx (fs_Vw E w d) ((fs_RS E).filter (fun r => decide (fs_bts r 0 = s)))) → K none M') : fs_C2 g m_Book_weighRowsOf 2 [fs_r 60, fs_i d] M K := by
  have h5 := hB.1
  have h6 := hB.2.1
  have h3 := hB.2.2.2.1
  have rl := fs_RS_len hB
  refine E_Book_weighRowsOf ?_
  have rows : ∀ (b a : List (List Int)) (M1 : fs_M), fs_RS E = a ++ b → fs_out (fun o _ => o = 74 + d) M M1 → (∀ s, 0 ≤ s → s < 64 → M1 (74 + d) s = fs_mx (fs_Vw E w d) (a.filter (fun r => decide (fs_bts r 0 = s)))) → fs_A2 g m_Book_weighRowsOf 2 25 [(0, fs_r 60), (1, fs_i d), (2, fs_i (a.length : Int))] [] M1 K := by
    intro b
    induction b with
    | nil =>
      intro a M1 ha o1 h1
      rw [List.append_nil] at ha
      refine L_Book_weighRowsOf_25 ⟨fun _ => hK M1 o1 (by rw [ha]; exact h1), fun z => ?_⟩
      rw [o1 60 2 (by omega), hbk.2.2.2.2.1, ha] at z
      omega
    | cons r t ih =>
      intro a M1 ha o1 h1
      have rm : r ∈ fs_RS E := by
        rw [ha]
        exact List.mem_append.2 (Or.inr List.mem_cons_self)
      have ll : a.length + (t.length + 1) ≤ 1957 := by
        have : (fs_RS E).length = a.length + (t.length + 1) := by rw [ha, List.length_append, List.length_cons]
        omega
      have w12 := hbk.2.2.2.2.2.1
      have wk := hbk.2.2.2.2.2.2 d d0 d1
      rw [ha] at w12 wk
      have p12 := ((fs_wrt_app _ _ _).1 w12).2.1
      have pk := ((fs_wrt_app _ _ _).1 wk).2.1
      rw [Int.zero_add] at p12 pk
      have e62 : M1 62 (a.length : Int) = fs_bts r 0 := by rw [o1 62 _ (by omega)]; exact p12.2
      have e68 : M1 (68 + d) (a.length : Int) = fs_col (fs_itm E (-1) (E 31 2) (fs_alN E) d r) (E 1 5).toNat := by rw [o1 (68 + d) _ (by omega)]; exact pk.2
      obtain ⟨s0, s1⟩ := fs_bts_b r 0 (fs_RS_6 hB rm) (by decide) (by decide)
      have cb := fs_col_b (fs_itm E (-1) (E 31 2) (fs_alN E) d r) (E 1 5).toNat (by omega)
      have p64 := fs_p2_64 (n := ((E 1 5).toNat : Int)) (by omega)
      have e72 : M1 72 (fs_col (fs_itm E (-1) (E 31 2) (fs_alN E) d r) (E 1 5).toNat) = fs_Vw E w d r := by
        rw [o1 72 _ (by omega), h72 _ cb.1 (by omega)]
        exact fs_Vw_col hB
      refine L_Book_weighRowsOf_25 ⟨fun z => ?_, fun _ => ?_⟩
      · rw [o1 60 2 (by omega), hbk.2.2.2.2.1, ha, List.length_append, List.length_cons] at z
        omega
      · rw [e62, e68, e72, fs_wlenA (r := r) (by omega)]
        refine ⟨d0, by omega, by omega, by omega, s0, s1, cb.1, by omega, sp_maxI ⟨_, rfl, ?_⟩⟩
        refine ih (a ++ [r]) _ (by rw [ha, List.append_assoc]; rfl) (o1.st rfl) (fun s a0 a1 => ?_)
        rw [List.filter_append]
        by_cases c : s = fs_bts r 0
        · rw [c, fs_st_s, h1 _ s0 s1, List.filter_cons_of_pos (p := fun (q : List Int) => decide (fs_bts q 0 = fs_bts r 0)) (decide_eq_true rfl), List.filter_nil, fs_mx_snoc]
        · rw [fs_st_k c, h1 s a0 a1, List.filter_cons_of_neg (p := fun (q : List Int) => decide (fs_bts q 0 = s)) (by rw [decide_eq_false (fun q => c q.symm)]; decide), List.filter_nil, List.append_nil]
  have zeros : ∀ (n : Nat) (s : Int) (M1 : fs_M), s + n = 64 → 0 ≤ s → fs_out (fun o _ => o = 74 + d) M M1 → (∀ t, 0 ≤ t → t < s → M1 (74 + d) t = 0) → fs_A2 g m_Book_weighRowsOf 2 2 [(0, fs_r 60), (1, fs_i d), (2, fs_i s)] [] M1 K := by
    intro n
    induction n with
    | zero =>
      intro s M1 hs s0 o1 h1
      refine L_Book_weighRowsOf_2 ⟨fun _ => ?_, fun z => by omega⟩
      exact rows (fs_RS E) [] M1 rfl o1 (fun t a b => h1 t a (by omega))
    | succ n ih =>
      intro s M1 hs s0 o1 h1
      refine L_Book_weighRowsOf_2 ⟨fun z => by omega, fun _ => ⟨d0, by omega, s0, ?_⟩⟩
      rw [fs_w32_of (by omega) (by omega)]
      refine ih (s + 1) _ (by omega) (by omega) (o1.st rfl) (fun t a b => ?_)
      by_cases q : t = s
      · rw [q, fs_st_s]
      · rw [fs_st_k q]
        exact h1 t a (by omega)
  exact zeros 64 0 M rfl (by decide) fs_out.rf (fun t a b => by omega)
end DP
