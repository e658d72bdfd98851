-- ===== all rows of houses, in their order =====
def fs_fmp {α β : Type} (f : α → List β) : List α → List β
  | [] => []
  | a :: t => f a ++ fs_fmp f t
theorem fs_fmp_mem {α β : Type} {f : α → List β} {s : β} : ∀ {l : List α}, s ∈ fs_fmp f l ↔ ∃ a, a ∈ l ∧ s ∈ f a
  | [] => ⟨fun q => (by cases q), fun ⟨a, q, _⟩ => (by cases q)⟩
  | a :: t => by
    show s ∈ f a ++ fs_fmp f t ↔ _
    rw [List.mem_append, fs_fmp_mem]
    constructor
    · rintro (q | ⟨b, q1, q2⟩)
      · exact ⟨a, List.mem_cons_self, q⟩
      · exact ⟨b, List.mem_cons_of_mem _ q1, q2⟩
    · rintro ⟨b, q1, q2⟩
      rcases List.mem_cons.1 q1 with q | q
      · rw [← q]
        exact Or.inl q2
      · exact Or.inr ⟨b, q, q2⟩
theorem fs_fmp_filter {α β : Type} {f : α → List β} {p : β → Bool} : ∀ (l : List α), (fs_fmp f l).filter p = fs_fmp (fun a => (f a).filter p) l
  | [] => rfl
  | a :: t => by
    show (f a ++ fs_fmp f t).filter p = (f a).filter p ++ fs_fmp (fun a => (f a).filter p) t
    rw [List.filter_append, fs_fmp_filter t]
theorem fs_fmp_skip {α β : Type} {f : α → List β} {q : α → Bool} : ∀ (l : List α), (∀ a, a ∈ l → q a = false → f a = []) → fs_fmp f (l.filter q) = fs_fmp f l
  | [], _ => rfl
  | a :: t, h => by
    have ih := fs_fmp_skip (f := f) (q := q) t (fun b hb => h b (List.mem_cons_of_mem _ hb))
    by_cases c : q a = true
    · rw [List.filter_cons_of_pos c]
      show f a ++ fs_fmp f (t.filter q) = f a ++ fs_fmp f t
      rw [ih]
    · rw [List.filter_cons_of_neg c]
      show fs_fmp f (t.filter q) = f a ++ fs_fmp f t
      rw [ih, h a List.mem_cons_self (by cases hq : q a with | true => exact absurd hq c | false => rfl)]
      rfl
theorem fs_fmp_congr {α β : Type} {f f2 : α → List β} : ∀ (l : List α), (∀ a, a ∈ l → f a = f2 a) → fs_fmp f l = fs_fmp f2 l
  | [], _ => rfl
  | a :: t, h => by
    show f a ++ fs_fmp f t = f2 a ++ fs_fmp f2 t
    rw [h a List.mem_cons_self, fs_fmp_congr t (fun b hb => h b (List.mem_cons_of_mem _ hb))]
theorem fs_fmp_append {α β : Type} {f : α → List β} : ∀ (l l2 : List α), fs_fmp f (l ++ l2) = fs_fmp f l ++ fs_fmp f l2
  | [], _ => rfl
  | a :: t, l2 => by
    show f a ++ fs_fmp f (t ++ l2) = (f a ++ fs_fmp f t) ++ fs_fmp f l2
    rw [fs_fmp_append t l2, List.append_assoc]
theorem fs_fmp_fm {α β γ : Type} {f : α → List β} {k : β → List γ} : ∀ (l : List α), fs_fmp k (fs_fmp f l) = fs_fmp (fun a => fs_fmp k (f a)) l
  | [] => rfl
  | a :: t => by
    show fs_fmp k (f a ++ fs_fmp f t) = fs_fmp k (f a) ++ fs_fmp (fun a => fs_fmp k (f a)) t
    rw [fs_fmp_append, fs_fmp_fm t]
theorem fs_nd_snoc {h : Int} : ∀ {r : List Int}, r.Nodup → h ∉ r → (r ++ [h]).Nodup
  | [], _, _ => List.nodup_cons.2 ⟨fun q => (by cases q), List.nodup_nil⟩
  | x :: t, hn, hh => by
    obtain ⟨a, b⟩ := List.nodup_cons.1 hn
    refine List.nodup_cons.2 ⟨fun q => ?_, fs_nd_snoc b (fun q => hh (List.mem_cons_of_mem _ q))⟩
    rcases List.mem_append.1 q with q | q
    · exact a q
    · rcases List.mem_cons.1 q with q | q
      · exact hh (by rw [q]; exact List.mem_cons_self)
      · cases q
/-- the houses from x on (m of them) that may come next -/
def fs_hf (ok : Int → Bool) (r : List Int) (m : Nat) (x : Int) : List Int := (fs_lst (fun k => k) m x).filter (fun h => ok h && !decide (h ∈ r))
def fs_ext (H : Nat) (ok : Int → Bool) : Nat → List Int → List (List Int)
  | 0, r => [r]
  | n + 1, r => r :: fs_fmp (fun h => fs_ext H ok n (r ++ [h])) (fs_hf ok r H 0)
abbrev fs_tt : Int → Bool := fun _ => true
theorem fs_hf_mem {ok : Int → Bool} {r : List Int} {m : Nat} {x h : Int} (q : h ∈ fs_hf ok r m x) : x ≤ h ∧ h < x + m ∧ ok h = true ∧ h ∉ r := by
  unfold fs_hf at q
  obtain ⟨a, b⟩ := List.mem_filter.1 q
  obtain ⟨k, k0, k1, e⟩ := fs_lst_mem a
  rw [Bool.and_eq_true] at b
  refine ⟨by omega, by omega, b.1, fun z => ?_⟩
  have := b.2
  rw [decide_eq_true z] at this
  exact absurd this (by decide)
theorem fs_hf_in {ok : Int → Bool} {r : List Int} {m : Nat} {x h : Int} (h0 : x ≤ h) (h1 : h < x + m) (hk : ok h = true) (hn : h ∉ r) : h ∈ fs_hf ok r m x := by
  unfold fs_hf
  refine List.mem_filter.2 ⟨fs_lst_in (fun k => k) m x h h0 h1, ?_⟩
  rw [hk, decide_eq_false hn]
  rfl
theorem fs_hf_y {ok : Int → Bool} {r : List Int} {m : Nat} {x : Int} (hk : ok x = true) (hn : x ∉ r) : fs_hf ok r (m + 1) x = x :: fs_hf ok r m (x + 1) := by
  unfold fs_hf
  show (x :: fs_lst (fun k => k) m (x + 1)).filter _ = _
  rw [List.filter_cons_of_pos]
  rw [hk, decide_eq_false hn]
  rfl
theorem fs_hf_n {ok : Int → Bool} {r : List Int} {m : Nat} {x : Int} (h : ok x = false ∨ x ∈ r) : fs_hf ok r (m + 1) x = fs_hf ok r m (x + 1) := by
  unfold fs_hf
  show (x :: fs_lst (fun k => k) m (x + 1)).filter _ = _
  rw [List.filter_cons_of_neg]
  rcases h with q | q
  · rw [q]
    simp
  · rw [decide_eq_true q]
    simp
theorem fs_ext_s {H : Nat} {ok : Int → Bool} {n : Nat} {r : List Int} : fs_ext H ok (n + 1) r = r :: fs_fmp (fun h => fs_ext H ok n (r ++ [h])) (fs_hf ok r H 0) := rfl
theorem fs_ext_mem {H : Nat} {ok : Int → Bool} : ∀ (n : Nat) (r s : List Int), s ∈ fs_ext H ok n r → (∀ h, h ∈ s → h ∈ r ∨ (0 ≤ h ∧ h < H ∧ ok h = true)) ∧ (r.Nodup → s.Nodup) ∧ r.length ≤ s.length ∧ s.length ≤ r.length + n ∧ ∀ h, h ∈ r → h ∈ s
  | 0, r, s, q => by
    rcases List.mem_cons.1 q with q | q
    · rw [q]
      exact ⟨fun h hh => Or.inl hh, fun z => z, Nat.le_refl _, Nat.le_refl _, fun h hh => hh⟩
    · cases q
  | n + 1, r, s, q => by
    rw [fs_ext_s] at q
    rcases List.mem_cons.1 q with q | q
    · rw [q]
      exact ⟨fun h hh => Or.inl hh, fun z => z, Nat.le_refl _, by omega, fun h hh => hh⟩
    · obtain ⟨x, hx, hs⟩ := fs_fmp_mem.1 q
      obtain ⟨x0, x1, xk, xn⟩ := fs_hf_mem hx
      obtain ⟨a, b, c, d, e⟩ := fs_ext_mem n (r ++ [x]) s hs
      rw [List.length_append, List.length_singleton] at c d
      refine ⟨fun h hh => ?_, fun z => b (fs_nd_snoc z xn), by omega, by omega, fun h hh => e h (List.mem_append.2 (Or.inl hh))⟩
      rcases a h hh with y | y
      · rcases List.mem_append.1 y with y | y
        · exact Or.inl y
        · rcases List.mem_cons.1 y with y | y
          · rw [y]
            exact Or.inr ⟨x0, by omega, xk⟩
          · cases y
      · exact Or.inr y
/-- rows that keep to some houses are those of all rows that do -/
theorem fs_ext_filter {H : Nat} {ok : Int → Bool} : ∀ (n : Nat) (r : List Int), ((∀ h, h ∈ r → ok h = true) → (fs_ext H fs_tt n r).filter (fun s => s.all ok) = fs_ext H ok n r) ∧ ((∃ h, h ∈ r ∧ ok h = false) → (fs_ext H fs_tt n r).filter (fun s => s.all ok) = [])
  | 0, r => by
    refine ⟨fun h => ?_, fun ⟨h, h1, h2⟩ => ?_⟩
    · show [r].filter _ = [r]
      rw [List.filter_cons_of_pos (p := fun (s : List Int) => s.all ok) (List.all_eq_true.2 h)]
      rfl
    · show [r].filter _ = []
      rw [List.filter_cons_of_neg (fun q => by have := List.all_eq_true.1 q h h1; rw [h2] at this; exact absurd this (by decide))]
      rfl
  | n + 1, r => by
    refine ⟨fun h => ?_, fun ⟨h, h1, h2⟩ => ?_⟩
    · rw [fs_ext_s, fs_ext_s, List.filter_cons_of_pos (p := fun (s : List Int) => s.all ok) (List.all_eq_true.2 h), fs_fmp_filter]
      congr 1
      have e : fs_hf ok r H 0 = (fs_hf fs_tt r H 0).filter ok := by
        unfold fs_hf
        rw [List.filter_filter]
        congr 1
      rw [e, ← fs_fmp_skip (f := fun a => (fs_ext H fs_tt n (r ++ [a])).filter (fun s => s.all ok)) (q := ok) (fs_hf fs_tt r H 0) (fun x hx xk => (fs_ext_filter n (r ++ [x])).2 ⟨x, List.mem_append.2 (Or.inr List.mem_cons_self), xk⟩)]
      refine fs_fmp_congr _ (fun x hx => ?_)
      have xk := (List.mem_filter.1 hx).2
      refine (fs_ext_filter n (r ++ [x])).1 (fun y hy => ?_)
      rcases List.mem_append.1 hy with z | z
      · exact h y z
      · rcases List.mem_cons.1 z with z | z
        · rw [z]
          exact xk
        · cases z
    · rw [fs_ext_s, List.filter_cons_of_neg (fun q => by have := List.all_eq_true.1 q h h1; rw [h2] at this; exact absurd this (by decide)), fs_fmp_filter]
      have : ∀ (l : List Int), fs_fmp (fun a => (fs_ext H fs_tt n (r ++ [a])).filter (fun s => s.all ok)) l = [] := by
        intro l
        induction l with
        | nil => rfl
        | cons x t ih =>
          show (fs_ext H fs_tt n (r ++ [x])).filter _ ++ fs_fmp _ t = []
          rw [ih, (fs_ext_filter n (r ++ [x])).2 ⟨h, List.mem_append.2 (Or.inl h1), h2⟩]
          rfl
      exact this _

/-- every row of houses that may come stands there -/
theorem fs_ext_all {H : Nat} {ok : Int → Bool} : ∀ (l : List Int) (n : Nat) (r : List Int), l.Nodup → (∀ h, h ∈ l → 0 ≤ h ∧ h < H ∧ ok h = true ∧ h ∉ r) → l.length ≤ n → r ++ l ∈ fs_ext H ok n r
  | [], n, r, _, _, _ => by
    rw [List.append_nil]
    cases n with
    | zero => exact List.mem_cons_self
    | succ n => exact List.mem_cons_self
  | x :: t, 0, r, _, _, h3 => by
    rw [List.length_cons] at h3
    omega
  | x :: t, n + 1, r, h1, h2, h3 => by
    obtain ⟨a, b⟩ := List.nodup_cons.1 h1
    obtain ⟨x0, x1, xk, xn⟩ := h2 x List.mem_cons_self
    rw [List.length_cons] at h3
    rw [fs_ext_s]
    refine List.mem_cons_of_mem _ (fs_fmp_mem.2 ⟨x, fs_hf_in x0 (by omega) xk xn, ?_⟩)
    have := fs_ext_all (H := H) (ok := ok) t n (r ++ [x]) b (fun h hh => ?_) (by omega)
    · rw [List.append_assoc] at this
      exact this
    · obtain ⟨y0, y1, yk, yn⟩ := h2 h (List.mem_cons_of_mem _ hh)
      refine ⟨y0, y1, yk, fun q => ?_⟩
      rcases List.mem_append.1 q with z | z
      · exact yn z
      · rcases List.mem_cons.1 z with z | z
        · exact a (by rw [← z]; exact hh)
        · cases z
theorem fs_ext_len : ∀ H : Nat, H < 7 → (fs_ext H fs_tt 6 []).length ≤ 1957 := by decide +kernel
theorem fs_lst_id_nd : ∀ (m : Nat) (x : Int), (fs_lst (fun k => k) m x).Nodup
  | 0, _ => List.nodup_nil
  | m + 1, x => List.nodup_cons.2 ⟨fun q => by
      obtain ⟨k, k0, k1, e⟩ := fs_lst_mem q
      have e2 : k = x := e
      omega, fs_lst_id_nd m (x + 1)⟩
theorem fs_filter_nd {p : Int → Bool} : ∀ {l : List Int}, l.Nodup → (l.filter p).Nodup
  | [], _ => List.nodup_nil
  | x :: t, h => by
    obtain ⟨a, b⟩ := List.nodup_cons.1 h
    by_cases c : p x = true
    · rw [List.filter_cons_of_pos c]
      exact List.nodup_cons.2 ⟨fun q => a (List.mem_filter.1 q).1, fs_filter_nd b⟩
    · rw [List.filter_cons_of_neg c]
      exact fs_filter_nd b
-- a row as bits of its houses, as digits
def fs_bts : List Int → Int → Int
  | [], a => a
  | h :: t, a => fs_bts t (fs_or a (fs_shl 1 h))
def fs_cod : List Int → Int → Int → Int
  | [], _, a => a
  | h :: t, p, a => fs_cod t (p + 1) (fs_or a (fs_shl (h + 1) (fs_w32 (3 * p))))
def fs_nth : List Int → Nat → Int
  | [], _ => -1
  | h :: _, 0 => h
  | _ :: t, n + 1 => fs_nth t n
theorem fs_bts_snoc {h : Int} : ∀ (r : List Int) (a : Int), fs_bts (r ++ [h]) a = fs_or (fs_bts r a) (fs_shl 1 h)
  | [], a => rfl
  | x :: t, a => fs_bts_snoc t _
theorem fs_cod_snoc {h : Int} : ∀ (r : List Int) (p a : Int), fs_cod (r ++ [h]) p a = fs_or (fs_cod r p a) (fs_shl (h + 1) (fs_w32 (3 * (p + r.length))))
  | [], p, a => by
    show fs_or a (fs_shl (h + 1) (fs_w32 (3 * p))) = fs_or a (fs_shl (h + 1) (fs_w32 (3 * (p + 0))))
    rw [Int.add_zero]
  | x :: t, p, a => by
    have e : p + 1 + (t.length : Int) = p + ((x :: t).length : Int) := by
      rw [List.length_cons]
      omega
    rw [← e]
    exact fs_cod_snoc t (p + 1) _
theorem fs_bts_b : ∀ (r : List Int) (a : Int), (∀ h, h ∈ r → 0 ≤ h ∧ h < 6) → 0 ≤ a → a < 64 → 0 ≤ fs_bts r a ∧ fs_bts r a < 64
  | [], a, _, a0, a1 => ⟨a0, a1⟩
  | x :: t, a, h, a0, a1 => by
    obtain ⟨x0, x1⟩ := h x List.mem_cons_self
    obtain ⟨b0, b1⟩ := fs_or_p2 (n := 6) (by decide) a0 (show a < fs_p2 6 from a1) x0 x1
    exact fs_bts_b t _ (fun y hy => h y (List.mem_cons_of_mem _ hy)) b0 b1
theorem fs_bts_bit {i : Int} (i0 : 0 ≤ i) (i1 : i < 6) : ∀ (r : List Int) (a : Int), (∀ h, h ∈ r → 0 ≤ h ∧ h < 6) → (fs_bit (fs_bts r a) i = 1 ↔ fs_bit a i = 1 ∨ i ∈ r)
  | [], a, _ => ⟨fun q => Or.inl q, fun q => by
      rcases q with q | q
      · exact q
      · cases q⟩
  | x :: t, a, h => by
    obtain ⟨x0, x1⟩ := h x List.mem_cons_self
    have ih := fs_bts_bit i0 i1 t (fs_or a (fs_shl 1 x)) (fun y hy => h y (List.mem_cons_of_mem _ hy))
    show fs_bit (fs_bts t (fs_or a (fs_shl 1 x))) i = 1 ↔ _
    rw [ih, fs_bit_or1 x0 x1 i0 i1, List.mem_cons]
    by_cases c : i = x
    · rw [if_pos c]
      exact ⟨fun _ => Or.inr (Or.inl c), fun _ => Or.inl rfl⟩
    · rw [if_neg c]
      constructor
      · rintro (q | q)
        · exact Or.inl q
        · exact Or.inr (Or.inr q)
      · rintro (q | q | q)
        · exact Or.inl q
        · exact absurd q c
        · exact Or.inr q
theorem fs_bts_in {i : Int} (i0 : 0 ≤ i) (i1 : i < 6) {r : List Int} (h : ∀ h, h ∈ r → 0 ≤ h ∧ h < 6) : fs_bit (fs_bts r 0) i = 1 ↔ i ∈ r := by
  rw [fs_bts_bit i0 i1 r 0 h]
  have z := fs_bit0 i.toNat (by omega)
  rw [show ((i.toNat : Nat) : Int) = i by omega] at z
  rw [z]
  exact ⟨fun q => by
    rcases q with q | q
    · exact absurd q (by decide)
    · exact q, fun q => Or.inr q⟩
theorem fs_cod_dig : ∀ (r : List Int) (p a : Int), 0 ≤ p → p + r.length ≤ 6 → (∀ h, h ∈ r → 0 ≤ h ∧ h < 6) → (∀ i, p ≤ i → i < 6 → fs_dig a i = 0) → ∀ i, 0 ≤ i → i < 6 → fs_dig (fs_cod r p a) i = if i < p then fs_dig a i else fs_nth r (i - p).toNat + 1
  | [], p, a, p0, pl, h, hz, i, i0, i1 => by
    show fs_dig a i = _
    by_cases c : i < p
    · rw [if_pos c]
    · rw [if_neg c, hz i (by omega) i1]
      rfl
  | x :: t, p, a, p0, pl, h, hz, i, i0, i1 => by
    rw [List.length_cons] at pl
    obtain ⟨x0, x1⟩ := h x List.mem_cons_self
    have dg : ∀ j, 0 ≤ j → j < 6 → fs_dig (fs_or a (fs_shl (x + 1) (fs_w32 (3 * p)))) j = if j = p then x + 1 else fs_dig a j := fun j j0 j1 => fs_dig_or j0 j1 p0 (by omega) (by omega) (by omega) (hz p (by omega) (by omega))
    show fs_dig (fs_cod t (p + 1) (fs_or a (fs_shl (x + 1) (fs_w32 (3 * p))))) i = _
    rw [fs_cod_dig t (p + 1) _ (by omega) (by omega) (fun y hy => h y (List.mem_cons_of_mem _ hy)) (fun j j0 j1 => by rw [dg j (by omega) j1, if_neg (by omega)]; exact hz j (by omega) j1) i i0 i1]
    by_cases c : i < p
    · rw [if_pos (by omega), if_pos c, dg i i0 i1, if_neg (by omega)]
    · rw [if_neg c]
      by_cases e : i = p
      · rw [if_pos (by omega), dg i i0 i1, if_pos e, show (i - p).toNat = 0 by omega]
        rfl
      · rw [if_neg (by omega), show (i - p).toNat = (i - (p + 1)).toNat + 1 by omega]
        rfl
theorem fs_nth_b : ∀ (r : List Int) (n : Nat), (∀ h, h ∈ r → 0 ≤ h ∧ h < 6) → -1 ≤ fs_nth r n ∧ fs_nth r n < 6 ∧ (fs_nth r n = -1 ↔ r.length ≤ n)
  | [], n, _ => ⟨(by show (-1 : Int) ≤ -1; decide), (by show (-1 : Int) < 6; decide), ⟨fun _ => Nat.zero_le _, fun _ => rfl⟩⟩
  | x :: t, 0, h => by
    obtain ⟨x0, x1⟩ := h x List.mem_cons_self
    refine ⟨by show -1 ≤ x; omega, x1, ⟨fun q => ?_, fun q => ?_⟩⟩
    · have : x = -1 := q
      omega
    · rw [List.length_cons] at q
      omega
  | x :: t, n + 1, h => by
    obtain ⟨a, b, c⟩ := fs_nth_b t n (fun y hy => h y (List.mem_cons_of_mem _ hy))
    refine ⟨a, b, ⟨fun q => ?_, fun q => ?_⟩⟩
    · have := c.1 q
      rw [List.length_cons]
      omega
    · rw [List.length_cons] at q
      exact c.2 (by omega)
