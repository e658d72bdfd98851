-- ===== printed by program (wip/whole/gen06.py): an instruction, a row: constants, locals, arithmetic, branches =====
theorem fs_ofI_add (x y : Int) : Int32.ofInt x + Int32.ofInt y = Int32.ofInt (fs_w32 (x + y)) := by rw [fs_ofI, Int32.ofInt_add]
theorem fs_ofI_sub (x y : Int) : Int32.ofInt x - Int32.ofInt y = Int32.ofInt (fs_w32 (x - y)) := by rw [fs_ofI, Int32.ofInt_sub]
theorem fs_ofI_mul (x y : Int) : Int32.ofInt x * Int32.ofInt y = Int32.ofInt (fs_w32 (x * y)) := by rw [fs_ofI, Int32.ofInt_mul]
theorem fs_ofI_neg (x : Int) : - Int32.ofInt x = Int32.ofInt (fs_w32 (-x)) := by rw [fs_ofI, Int32.ofInt_neg]
theorem fs_ofL_add (x y : Int) : Int64.ofInt x + Int64.ofInt y = Int64.ofInt (fs_w64 (x + y)) := by rw [fs_ofL, Int64.ofInt_add]
theorem fs_ofL_sub (x y : Int) : Int64.ofInt x - Int64.ofInt y = Int64.ofInt (fs_w64 (x - y)) := by rw [fs_ofL, Int64.ofInt_sub]
theorem fs_ofL_mul (x y : Int) : Int64.ofInt x * Int64.ofInt y = Int64.ofInt (fs_w64 (x * y)) := by rw [fs_ofL, Int64.ofInt_mul]
theorem fs_ofL_neg (x : Int) : - Int64.ofInt x = Int64.ofInt (fs_w64 (-x)) := by rw [fs_ofL, Int64.ofInt_neg]
theorem fs_eq32 {x y : Int} (hx : fs_in32 x) (hy : fs_in32 y) : Int32.ofInt x = Int32.ofInt y ↔ x = y := by rw [← Int32.toInt_inj, fs_toI hx, fs_toI hy]
theorem fs_lt32 {x y : Int} (hx : fs_in32 x) (hy : fs_in32 y) : Int32.ofInt x < Int32.ofInt y ↔ x < y := by rw [Int32.lt_iff_toInt_lt, fs_toI hx, fs_toI hy]
theorem fs_le32 {x y : Int} (hx : fs_in32 x) (hy : fs_in32 y) : Int32.ofInt x ≤ Int32.ofInt y ↔ x ≤ y := by rw [Int32.le_iff_toInt_le, fs_toI hx, fs_toI hy]
theorem fs_in0 : fs_in32 0 := by unfold fs_in32; omega
theorem fs_eq64 {x y : Int} (hx : fs_in64 x) (hy : fs_in64 y) : Int64.ofInt x = Int64.ofInt y ↔ x = y := by rw [← Int64.toInt_inj, fs_toL hx, fs_toL hy]
theorem fs_lt64 {x y : Int} (hx : fs_in64 x) (hy : fs_in64 y) : Int64.ofInt x < Int64.ofInt y ↔ x < y := by rw [Int64.lt_iff_toInt_lt, fs_toL hx, fs_toL hy]
theorem fs_lcmp_eq {x y : Int} (hx : fs_in64 x) (hy : fs_in64 y) : lg_cmp (Int64.ofInt x) (Int64.ofInt y) = Int32.ofInt (fs_lcmp x y) := by
  unfold lg_cmp fs_lcmp
  have h1 := fs_lt64 hy hx
  have h2 := fs_eq64 hx hy
  by_cases a : x > y
  · rw [if_pos a, if_pos (h1.mpr a)]; rfl
  · rw [if_neg a, if_neg (fun q => a (h1.mp q))]
    by_cases b : x = y
    · rw [if_pos b, if_pos (h2.mpr b)]; rfl
    · rw [if_neg b, if_neg (fun q => b (h2.mp q))]; rfl
theorem fs_lcmp_in (x y : Int) : fs_in32 (fs_lcmp x y) := by
  unfold fs_lcmp fs_in32
  split
  · omega
  · split <;> omega
def fs_isl (v : fs_V) : Bool := match v with
  | .inr (.inl _) => true
  | _ => false
theorem fs_rf_cat (r : Option Nat) : (va_rf r).category = 1 := by cases r <;> rfl
theorem fs_e_cat (g : fs_G) (v : fs_V) : ((fs_e g v).category == 2) = fs_isl v := by
  rcases v with x | x | x
  · rfl
  · rfl
  · show ((va_rf (fs_ro g x)).category == 2) = false
    rw [fs_rf_cat]
    rfl
def fs_sto (ls : List (Nat × fs_V)) (i : Nat) (v : fs_V) : List (Nat × fs_V) := (i, v) :: ls.filter (fun q => !(q.1 == i) && !(q.1 + 1 == i && fs_isl q.2))
def fs_sto2 (ls : List (Nat × fs_V)) (i : Nat) (v : fs_V) : List (Nat × fs_V) := (i, v) :: ls.filter (fun q => !(q.1 == i) && (!(q.1 == i + 1) && !(q.1 + 1 == i && fs_isl q.2)))
def fs_pick (l : List (Nat × fs_V)) (ks : List Nat) : List (Nat × fs_V) := ks.filterMap (fun k => l[k]?)
theorem fs_lv_sto (g : fs_G) (ls : List (Nat × fs_V)) (i : Nat) (v : fs_V) : (i, fs_e g v) :: (fs_lv g ls).filter (fun q => !(q.1 == i) && !(q.1 + 1 == i && q.2.category == 2)) = fs_lv g (fs_sto ls i v) := by
  simp only [fs_lv, fs_sto, List.map_cons, List.filter_map, Function.comp_def, fs_e_cat]
theorem fs_lv_sto2 (g : fs_G) (ls : List (Nat × fs_V)) (i : Nat) (v : fs_V) : (i, fs_e g v) :: (fs_lv g ls).filter (fun q => !(q.1 == i) && (!(q.1 == i + 1) && !(q.1 + 1 == i && q.2.category == 2))) = fs_lv g (fs_sto2 ls i v) := by
  simp only [fs_lv, fs_sto2, List.map_cons, List.filter_map, Function.comp_def, fs_e_cat]
theorem fs_pick_mem {l : List (Nat × fs_V)} {ks : List Nat} {q : Nat × fs_V} (h : q ∈ fs_pick l ks) : q ∈ l := by
  obtain ⟨k, -, hk⟩ := List.mem_filterMap.mp h
  exact List.mem_of_getElem? hk
theorem fs_lv_pick {g : fs_G} {l l' : List (Nat × fs_V)} {nL : Nat} {lc : Array Slot} (ks : List Nat) (h : lv_has lc nL (fs_lv g l)) (hs : fs_pick l ks = l') : lv_has lc nL (fs_lv g l') := by
  subst hs
  refine ⟨h.1, h.2.1, fun q hq => ?_⟩
  obtain ⟨q0, h0, rfl⟩ := List.mem_map.mp hq
  exact h.2.2 _ (List.mem_map.mpr ⟨q0, fs_pick_mem h0, rfl⟩)
theorem fs_okl_pick {l l' : List (Nat × fs_V)} {ks : List Nat} (h : fs_okl l) (hs : fs_pick l ks = l') : fs_okl l' := by
  subst hs
  exact fun q hq => h q (fs_pick_mem hq)
theorem fs_okl_sto {ls : List (Nat × fs_V)} {i : Nat} {v : fs_V} (h : fs_okl ls) (hv : fs_ok v) : fs_okl (fs_sto ls i v) := by
  intro q hq
  rcases List.mem_cons.mp hq with rfl | hq
  · exact hv
  · exact h q (List.mem_filter.mp hq).1
theorem fs_okl_sto2 {ls : List (Nat × fs_V)} {i : Nat} {v : fs_V} (h : fs_okl ls) (hv : fs_ok v) : fs_okl (fs_sto2 ls i v) := by
  intro q hq
  rcases List.mem_cons.mp hq with rfl | hq
  · exact hv
  · exact h q (List.mem_filter.mp hq).1
theorem fs_lv_at {g : fs_G} {l : List (Nat × fs_V)} {nL : Nat} {lc : Array Slot} (h : lv_has lc nL (fs_lv g l)) {k i : Nat} {v : fs_V} (hk : l[k]? = some (i, v)) : lc[i]? = some (.val (fs_e g v)) := h.2.2 (i, fs_e g v) (List.mem_map.mpr ⟨(i, v), List.mem_of_getElem? hk, rfl⟩)
section OPS
variable {g : fs_G} {md : fs_D} {d : Nat} {z : fs_Z} {y : Nat × Nat × Nat} {pc : Nat} {ls ls' : List (Nat × fs_V)} {st : List fs_V} {M : fs_M} {K : fs_K}
/-- fewer locals, in another order -/
theorem a_sub (ks : List Nat) (hs : fs_pick ls ks = ls') (k : fs_At g md d z y pc ls' st M K) : fs_At g md d z y pc ls st M K := by
  intro p e R s m args below meth c C H locs lc hl hR hS hI hlo hok
  exact k p e R s m args below meth c C H locs lc (fs_lv_pick ks hl hs) hR hS hI (fs_okl_pick hlo hs) hok
/-- what holds of all cells, said when wanted -/
theorem a_inv (k : fs_XI z.1 M → fs_okl ls → fs_oks st → fs_At g md d z y pc ls st M K) : fs_At g md d z y pc ls st M K := by
  intro p e R s m args below meth c C H locs lc hl hR hS hI hlo hok
  exact k hI hlo hok p e R s m args below meth c C H locs lc hl hR hS hI hlo hok
theorem a_iconst {n : Int} (hd : decode md.2.1 pc = .ok (.iconst n, 1)) (hn : fs_in32 n) (k : fs_At g md d z y (pc + 1) ls (fs_i n :: st) M K) : fs_At g md d z y pc ls (st) M K := by
  intro p e R s m args below meth c C H locs lc hl hR hS hI hlo hok
  refine lv_iconst (v := Int32.ofInt n) C.1 C.2.1 hd rfl ?_
  exact k p e R s m args below meth c C H locs lc hl hR hS hI hlo (hok.c hn)
theorem fs_bi {n : Int} (h1 : -128 ≤ n) (h2 : n < 128) : (Int8.ofInt n).toInt32 = Int32.ofInt n := by
  apply Int32.toInt.inj
  rw [fs_toI (by unfold fs_in32; omega), Int8.toInt_toInt32]
  exact Int8.toInt_ofInt_of_le (by omega) (by omega)
theorem fs_si {n : Int} (h1 : -32768 ≤ n) (h2 : n < 32768) : (Int16.ofInt n).toInt32 = Int32.ofInt n := by
  apply Int32.toInt.inj
  rw [fs_toI (by unfold fs_in32; omega), Int16.toInt_toInt32]
  exact Int16.toInt_ofInt_of_le (by omega) (by omega)
theorem a_bipush {n : Int} (hd : decode md.2.1 pc = .ok (.bipush n, 2)) (hn : -128 ≤ n ∧ n < 128) (k : fs_At g md d z y (pc + 2) ls (fs_i n :: st) M K) : fs_At g md d z y pc ls (st) M K := by
  intro p e R s m args below meth c C H locs lc hl hR hS hI hlo hok
  refine lv_bipush (v := Int32.ofInt n) C.1 C.2.1 hd (fs_bi hn.1 hn.2) ?_
  exact k p e R s m args below meth c C H locs lc hl hR hS hI hlo (hok.c (by have := hn.1; have := hn.2; show fs_in32 n; unfold fs_in32; omega))
theorem a_sipush {n : Int} (hd : decode md.2.1 pc = .ok (.sipush n, 3)) (hn : -32768 ≤ n ∧ n < 32768) (k : fs_At g md d z y (pc + 3) ls (fs_i n :: st) M K) : fs_At g md d z y pc ls (st) M K := by
  intro p e R s m args below meth c C H locs lc hl hR hS hI hlo hok
  refine lv_sipush (v := Int32.ofInt n) C.1 C.2.1 hd (fs_si hn.1 hn.2) ?_
  exact k p e R s m args below meth c C H locs lc hl hR hS hI hlo (hok.c (by have := hn.1; have := hn.2; show fs_in32 n; unfold fs_in32; omega))
theorem a_lconst {n : Fin 2} {v : Int} (hd : decode md.2.1 pc = .ok (.lconst n, 1)) (hv : Int64.ofNat (n : Nat) = Int64.ofInt v) (hn : fs_in64 v) (k : fs_At g md d z y (pc + 1) ls (fs_l v :: st) M K) : fs_At g md d z y pc ls (st) M K := by
  intro p e R s m args below meth c C H locs lc hl hR hS hI hlo hok
  refine lv_lconst (v := Int64.ofInt v) C.1 C.2.1 hd hv ?_
  exact k p e R s m args below meth c C H locs lc hl hR hS hI hlo (hok.c hn)
theorem a_ldc {idx : Nat} {n : Int} (hd : decode md.2.1 pc = .ok (.ldc idx, 2)) (hw : Cond.constant md.1.cls idx (Int32.ofInt n) ∈ fs_B) (hn : fs_in32 n) (k : fs_At g md d z y (pc + 2) ls (fs_i n :: st) M K) : fs_At g md d z y pc ls (st) M K := by
  intro p e R s m args below meth c C H locs lc hl hR hS hI hlo hok
  refine lv_ldc (v := Int32.ofInt n) C.1 C.2.1 C.2.2.2.2.2.1 (C.2.2.2.2.2.2.1 _ hw) hd ?_
  exact k p e R s m args below meth c C H locs lc hl hR hS hI hlo (hok.c hn)
theorem a_ldcw {idx : Nat} {n : Int} (hd : decode md.2.1 pc = .ok (.ldc_w idx, 3)) (hw : Cond.constant md.1.cls idx (Int32.ofInt n) ∈ fs_B) (hn : fs_in32 n) (k : fs_At g md d z y (pc + 3) ls (fs_i n :: st) M K) : fs_At g md d z y pc ls (st) M K := by
  intro p e R s m args below meth c C H locs lc hl hR hS hI hlo hok
  refine lv_ldcw (v := Int32.ofInt n) C.1 C.2.1 C.2.2.2.2.2.1 (C.2.2.2.2.2.2.1 _ hw) hd ?_
  exact k p e R s m args below meth c C H locs lc hl hR hS hI hlo (hok.c hn)
theorem a_ldc2 {idx : Nat} {n : Int} (hd : decode md.2.1 pc = .ok (.ldc2_w idx, 3)) (hw : Cond.constantLong md.1.cls idx (Int64.ofInt n) ∈ fs_B) (hn : fs_in64 n) (k : fs_At g md d z y (pc + 3) ls (fs_l n :: st) M K) : fs_At g md d z y pc ls (st) M K := by
  intro p e R s m args below meth c C H locs lc hl hR hS hI hlo hok
  refine lv_ldc2 (v := Int64.ofInt n) C.1 C.2.1 C.2.2.2.2.2.1 (C.2.2.2.2.2.2.1 _ hw) hd ?_
  exact k p e R s m args below meth c C H locs lc hl hR hS hI hlo (hok.c hn)
theorem a_iload_n {n : Fin 4} {i j : Nat} {x : Int} (hd : decode md.2.1 pc = .ok (.iload_n n, 1)) (hi : (n : Nat) = i) (hk : ls[j]? = some (i, fs_i x)) (k : fs_At g md d z y (pc + 1) ls (fs_i x :: st) M K) : fs_At g md d z y pc ls (st) M K := by
  intro p e R s m args below meth c C H locs lc hl hR hS hI hlo hok
  refine lv_iload_n C.1 C.2.1 hd hi (fs_lv_at hl hk) ?_
  exact k p e R s m args below meth c C H locs lc hl hR hS hI hlo (hok.c (hlo _ (List.mem_of_getElem? hk)))
theorem a_iload {i j : Nat} {x : Int} (hd : decode md.2.1 pc = .ok (.iload i, 2)) (hk : ls[j]? = some (i, fs_i x)) (k : fs_At g md d z y (pc + 2) ls (fs_i x :: st) M K) : fs_At g md d z y pc ls (st) M K := by
  intro p e R s m args below meth c C H locs lc hl hR hS hI hlo hok
  refine lv_iload C.1 C.2.1 hd (fs_lv_at hl hk) ?_
  exact k p e R s m args below meth c C H locs lc hl hR hS hI hlo (hok.c (hlo _ (List.mem_of_getElem? hk)))
theorem a_lload_n {n : Fin 4} {i j : Nat} {x : Int} (hd : decode md.2.1 pc = .ok (.lload_n n, 1)) (hi : (n : Nat) = i) (hk : ls[j]? = some (i, fs_l x)) (k : fs_At g md d z y (pc + 1) ls (fs_l x :: st) M K) : fs_At g md d z y pc ls (st) M K := by
  intro p e R s m args below meth c C H locs lc hl hR hS hI hlo hok
  refine lv_lload_n C.1 C.2.1 hd hi (fs_lv_at hl hk) ?_
  exact k p e R s m args below meth c C H locs lc hl hR hS hI hlo (hok.c (hlo _ (List.mem_of_getElem? hk)))
theorem a_lload {i j : Nat} {x : Int} (hd : decode md.2.1 pc = .ok (.lload i, 2)) (hk : ls[j]? = some (i, fs_l x)) (k : fs_At g md d z y (pc + 2) ls (fs_l x :: st) M K) : fs_At g md d z y pc ls (st) M K := by
  intro p e R s m args below meth c C H locs lc hl hR hS hI hlo hok
  refine lv_lload C.1 C.2.1 hd (fs_lv_at hl hk) ?_
  exact k p e R s m args below meth c C H locs lc hl hR hS hI hlo (hok.c (hlo _ (List.mem_of_getElem? hk)))
theorem fs_e_r (g : fs_G) (x : Int) : (fs_e g (fs_r x) = .null) ∨ ∃ a, fs_e g (fs_r x) = .ref a := by
  show va_rf (fs_ro g x) = .null ∨ ∃ a, va_rf (fs_ro g x) = .ref a
  cases fs_ro g x with
  | none => exact Or.inl rfl
  | some a => exact Or.inr ⟨a, rfl⟩
theorem a_aload_n {n : Fin 4} {i j : Nat} {x : Int} (hd : decode md.2.1 pc = .ok (.aload_n n, 1)) (hi : (n : Nat) = i) (hk : ls[j]? = some (i, fs_r x)) (k : fs_At g md d z y (pc + 1) ls (fs_r x :: st) M K) : fs_At g md d z y pc ls st M K := by
  intro p e R s m args below meth c C H locs lc hl hR hS hI hlo hok
  have h1 := fs_lv_at hl hk
  have h2 := k p e R s m args below meth c C H locs lc hl hR hS hI hlo (hok.c (hlo _ (List.mem_of_getElem? hk)))
  rw [List.map_cons] at h2
  rcases fs_e_r g x with h0 | ⟨a, h0⟩
  · rw [h0] at h1 h2
    exact lv_aload_nN C.1 C.2.1 hd hi h1 h2
  · rw [h0] at h1 h2
    exact lv_aload_n C.1 C.2.1 hd hi h1 h2
theorem a_aload {i j : Nat} {x : Int} (hd : decode md.2.1 pc = .ok (.aload i, 2)) (hk : ls[j]? = some (i, fs_r x)) (k : fs_At g md d z y (pc + 2) ls (fs_r x :: st) M K) : fs_At g md d z y pc ls st M K := by
  intro p e R s m args below meth c C H locs lc hl hR hS hI hlo hok
  have h1 := fs_lv_at hl hk
  have h2 := k p e R s m args below meth c C H locs lc hl hR hS hI hlo (hok.c (hlo _ (List.mem_of_getElem? hk)))
  rw [List.map_cons] at h2
  rcases fs_e_r g x with h0 | ⟨a, h0⟩
  · rw [h0] at h1 h2
    exact lv_aloadN C.1 C.2.1 hd h1 h2
  · rw [h0] at h1 h2
    exact lv_aload C.1 C.2.1 hd h1 h2
theorem a_istore_n {n : Fin 4} {i : Nat} {x : Int} (hd : decode md.2.1 pc = .ok (.istore_n n, 1)) (hi : (n : Nat) = i) (hn : i < md.2.2.1) (ks : List Nat) (hs : fs_pick (fs_sto ls i (fs_i x)) ks = ls') (k : fs_At g md d z y (pc + 1) ls' st M K) : fs_At g md d z y pc ls (fs_i x :: st) M K := by
  intro p e R s m args below meth c C H locs lc hl hR hS hI hlo hok
  refine lv_istore_n C.1 C.2.1 hd hi hl hn (fs_lv_sto g ls i (fs_i x)) (fun lc' hl' => ?_)
  exact k p e R s m args below meth c C H locs lc' (fs_lv_pick ks hl' hs) hR hS hI (fs_okl_pick (fs_okl_sto hlo hok.h) hs) hok.t
theorem a_istore {i : Nat} {x : Int} (hd : decode md.2.1 pc = .ok (.istore i, 2)) (hn : i < md.2.2.1) (ks : List Nat) (hs : fs_pick (fs_sto ls i (fs_i x)) ks = ls') (k : fs_At g md d z y (pc + 2) ls' st M K) : fs_At g md d z y pc ls (fs_i x :: st) M K := by
  intro p e R s m args below meth c C H locs lc hl hR hS hI hlo hok
  refine lv_istore C.1 C.2.1 hd hl hn (fs_lv_sto g ls i (fs_i x)) (fun lc' hl' => ?_)
  exact k p e R s m args below meth c C H locs lc' (fs_lv_pick ks hl' hs) hR hS hI (fs_okl_pick (fs_okl_sto hlo hok.h) hs) hok.t
theorem a_lstore_n {n : Fin 4} {i : Nat} {x : Int} (hd : decode md.2.1 pc = .ok (.lstore_n n, 1)) (hi : (n : Nat) = i) (hn : i + 1 < md.2.2.1) (ks : List Nat) (hs : fs_pick (fs_sto2 ls i (fs_l x)) ks = ls') (k : fs_At g md d z y (pc + 1) ls' st M K) : fs_At g md d z y pc ls (fs_l x :: st) M K := by
  intro p e R s m args below meth c C H locs lc hl hR hS hI hlo hok
  refine lv_lstore_n C.1 C.2.1 hd hi hl hn (fs_lv_sto2 g ls i (fs_l x)) (fun lc' hl' => ?_)
  exact k p e R s m args below meth c C H locs lc' (fs_lv_pick ks hl' hs) hR hS hI (fs_okl_pick (fs_okl_sto2 hlo hok.h) hs) hok.t
theorem a_lstore {i : Nat} {x : Int} (hd : decode md.2.1 pc = .ok (.lstore i, 2)) (hn : i + 1 < md.2.2.1) (ks : List Nat) (hs : fs_pick (fs_sto2 ls i (fs_l x)) ks = ls') (k : fs_At g md d z y (pc + 2) ls' st M K) : fs_At g md d z y pc ls (fs_l x :: st) M K := by
  intro p e R s m args below meth c C H locs lc hl hR hS hI hlo hok
  refine lv_lstore C.1 C.2.1 hd hl hn (fs_lv_sto2 g ls i (fs_l x)) (fun lc' hl' => ?_)
  exact k p e R s m args below meth c C H locs lc' (fs_lv_pick ks hl' hs) hR hS hI (fs_okl_pick (fs_okl_sto2 hlo hok.h) hs) hok.t
theorem a_astore_n {n : Fin 4} {i : Nat} {x : Int} (hd : decode md.2.1 pc = .ok (.astore_n n, 1)) (hi : (n : Nat) = i) (hn : i < md.2.2.1) (hx : 0 ≤ x) (ks : List Nat) (hs : fs_pick (fs_sto ls i (fs_r x)) ks = ls') (k : fs_At g md d z y (pc + 1) ls' st M K) : fs_At g md d z y pc ls (fs_r x :: st) M K := by
  intro p e R s m args below meth c C H locs lc hl hR hS hI hlo hok
  have h0 : fs_e g (fs_r x) = .ref (fs_ad g x) := by
    show va_rf (fs_ro g x) = _
    unfold fs_ro
    rw [if_neg (by omega)]
    rfl
  rw [List.map_cons, h0]
  have h1 := fs_lv_sto g ls i (fs_r x)
  rw [h0] at h1
  refine lv_astore_n C.1 C.2.1 hd hi hl hn h1 (fun lc' hl' => ?_)
  exact k p e R s m args below meth c C H locs lc' (fs_lv_pick ks hl' hs) hR hS hI (fs_okl_pick (fs_okl_sto hlo hok.h) hs) hok.t
theorem a_astore {i : Nat} {x : Int} (hd : decode md.2.1 pc = .ok (.astore i, 2)) (hn : i < md.2.2.1) (hx : 0 ≤ x) (ks : List Nat) (hs : fs_pick (fs_sto ls i (fs_r x)) ks = ls') (k : fs_At g md d z y (pc + 2) ls' st M K) : fs_At g md d z y pc ls (fs_r x :: st) M K := by
  intro p e R s m args below meth c C H locs lc hl hR hS hI hlo hok
  have h0 : fs_e g (fs_r x) = .ref (fs_ad g x) := by
    show va_rf (fs_ro g x) = _
    unfold fs_ro
    rw [if_neg (by omega)]
    rfl
  rw [List.map_cons, h0]
  have h1 := fs_lv_sto g ls i (fs_r x)
  rw [h0] at h1
  refine lv_astore C.1 C.2.1 hd hl hn h1 (fun lc' hl' => ?_)
  exact k p e R s m args below meth c C H locs lc' (fs_lv_pick ks hl' hs) hR hS hI (fs_okl_pick (fs_okl_sto hlo hok.h) hs) hok.t
theorem a_iinc {i j : Nat} {n x : Int} (hd : decode md.2.1 pc = .ok (.iinc i n, 3)) (hk : ls[j]? = some (i, fs_i x)) (hn : i < md.2.2.1) (ks : List Nat) (hs : fs_pick (fs_sto ls i (fs_i (fs_w32 (x + n)))) ks = ls') (k : fs_At g md d z y (pc + 3) ls' st M K) : fs_At g md d z y pc ls st M K := by
  intro p e R s m args below meth c C H locs lc hl hR hS hI hlo hok
  have hk2 : (fs_lv g ls)[j]? = some (i, .int (Int32.ofInt x)) := by
    unfold fs_lv
    rw [List.getElem?_map, hk]
    rfl
  refine lv_iinc C.1 C.2.1 hd hl hk2 (fs_ofI_add x n) hn (fs_lv_sto g ls i (fs_i (fs_w32 (x + n)))) (fun lc' hl' => ?_)
  exact k p e R s m args below meth c C H locs lc' (fs_lv_pick ks hl' hs) hR hS hI (fs_okl_pick (fs_okl_sto hlo (show fs_ok (fs_i (fs_w32 (x + n))) from fs_w32_in _)) hs) hok
theorem a_iadd {x x2 : Int} (hd : decode md.2.1 pc = .ok (.iadd, 1)) (k : fs_At g md d z y (pc + 1) ls (fs_i (fs_w32 (x + x2)) :: st) M K) : fs_At g md d z y pc ls (fs_i x2 :: fs_i x :: st) M K := by
  intro p e R s m args below meth c C H locs lc hl hR hS hI hlo hok
  refine lv_iadd (x := Int32.ofInt x) (y := Int32.ofInt x2) C.1 C.2.1 hd ?_
  rw [fs_ofI_add]
  exact k p e R s m args below meth c C H locs lc hl hR hS hI hlo (hok.t.t.c (fs_w32_in _))
theorem a_isub {x x2 : Int} (hd : decode md.2.1 pc = .ok (.isub, 1)) (k : fs_At g md d z y (pc + 1) ls (fs_i (fs_w32 (x - x2)) :: st) M K) : fs_At g md d z y pc ls (fs_i x2 :: fs_i x :: st) M K := by
  intro p e R s m args below meth c C H locs lc hl hR hS hI hlo hok
  refine lv_isub (x := Int32.ofInt x) (y := Int32.ofInt x2) C.1 C.2.1 hd ?_
  rw [fs_ofI_sub]
  exact k p e R s m args below meth c C H locs lc hl hR hS hI hlo (hok.t.t.c (fs_w32_in _))
theorem a_imul {x x2 : Int} (hd : decode md.2.1 pc = .ok (.imul, 1)) (k : fs_At g md d z y (pc + 1) ls (fs_i (fs_w32 (x * x2)) :: st) M K) : fs_At g md d z y pc ls (fs_i x2 :: fs_i x :: st) M K := by
  intro p e R s m args below meth c C H locs lc hl hR hS hI hlo hok
  refine lv_imul (x := Int32.ofInt x) (y := Int32.ofInt x2) C.1 C.2.1 hd ?_
  rw [fs_ofI_mul]
  exact k p e R s m args below meth c C H locs lc hl hR hS hI hlo (hok.t.t.c (fs_w32_in _))
theorem a_ladd {x x2 : Int} (hd : decode md.2.1 pc = .ok (.ladd, 1)) (k : fs_At g md d z y (pc + 1) ls (fs_l (fs_w64 (x + x2)) :: st) M K) : fs_At g md d z y pc ls (fs_l x2 :: fs_l x :: st) M K := by
  intro p e R s m args below meth c C H locs lc hl hR hS hI hlo hok
  refine lv_ladd (x := Int64.ofInt x) (y := Int64.ofInt x2) C.1 C.2.1 hd ?_
  rw [fs_ofL_add]
  exact k p e R s m args below meth c C H locs lc hl hR hS hI hlo (hok.t.t.c (fs_w64_in _))
theorem a_lsub {x x2 : Int} (hd : decode md.2.1 pc = .ok (.lsub, 1)) (k : fs_At g md d z y (pc + 1) ls (fs_l (fs_w64 (x - x2)) :: st) M K) : fs_At g md d z y pc ls (fs_l x2 :: fs_l x :: st) M K := by
  intro p e R s m args below meth c C H locs lc hl hR hS hI hlo hok
  refine lv_lsub (x := Int64.ofInt x) (y := Int64.ofInt x2) C.1 C.2.1 hd ?_
  rw [fs_ofL_sub]
  exact k p e R s m args below meth c C H locs lc hl hR hS hI hlo (hok.t.t.c (fs_w64_in _))
theorem a_lmul {x x2 : Int} (hd : decode md.2.1 pc = .ok (.lmul, 1)) (k : fs_At g md d z y (pc + 1) ls (fs_l (fs_w64 (x * x2)) :: st) M K) : fs_At g md d z y pc ls (fs_l x2 :: fs_l x :: st) M K := by
  intro p e R s m args below meth c C H locs lc hl hR hS hI hlo hok
  refine lv_lmul (x := Int64.ofInt x) (y := Int64.ofInt x2) C.1 C.2.1 hd ?_
  rw [fs_ofL_mul]
  exact k p e R s m args below meth c C H locs lc hl hR hS hI hlo (hok.t.t.c (fs_w64_in _))
theorem a_ineg {x : Int} (hd : decode md.2.1 pc = .ok (.ineg, 1)) (k : fs_At g md d z y (pc + 1) ls (fs_i (fs_w32 (-x)) :: st) M K) : fs_At g md d z y pc ls (fs_i x :: st) M K := by
  intro p e R s m args below meth c C H locs lc hl hR hS hI hlo hok
  refine lv_ineg (x := Int32.ofInt x) C.1 C.2.1 hd ?_
  rw [fs_ofI_neg]
  exact k p e R s m args below meth c C H locs lc hl hR hS hI hlo (hok.t.c (fs_w32_in _))
theorem a_lneg {x : Int} (hd : decode md.2.1 pc = .ok (.lneg, 1)) (k : fs_At g md d z y (pc + 1) ls (fs_l (fs_w64 (-x)) :: st) M K) : fs_At g md d z y pc ls (fs_l x :: st) M K := by
  intro p e R s m args below meth c C H locs lc hl hR hS hI hlo hok
  refine lv_lneg (x := Int64.ofInt x) C.1 C.2.1 hd ?_
  rw [fs_ofL_neg]
  exact k p e R s m args below meth c C H locs lc hl hR hS hI hlo (hok.t.c (fs_w64_in _))
theorem fs_e_iand (x x2 : Int) : (Int32.ofInt x &&& Int32.ofInt x2) = Int32.ofInt (fs_and x x2) := (Int32.ofInt_toInt _).symm
theorem a_iand {x x2 : Int} (hd : decode md.2.1 pc = .ok (.iand, 1)) (k : fs_At g md d z y (pc + 1) ls (fs_i (fs_and x x2) :: st) M K) : fs_At g md d z y pc ls (fs_i x2 :: fs_i x :: st) M K := by
  intro p e R s m args below meth c C H locs lc hl hR hS hI hlo hok
  refine lv_iand (x := Int32.ofInt x) (y := Int32.ofInt x2) C.1 C.2.1 hd ?_
  rw [fs_e_iand]
  exact k p e R s m args below meth c C H locs lc hl hR hS hI hlo (hok.t.t.c (fs_I_in _))
theorem fs_e_ior (x x2 : Int) : (Int32.ofInt x ||| Int32.ofInt x2) = Int32.ofInt (fs_or x x2) := (Int32.ofInt_toInt _).symm
theorem a_ior {x x2 : Int} (hd : decode md.2.1 pc = .ok (.ior, 1)) (k : fs_At g md d z y (pc + 1) ls (fs_i (fs_or x x2) :: st) M K) : fs_At g md d z y pc ls (fs_i x2 :: fs_i x :: st) M K := by
  intro p e R s m args below meth c C H locs lc hl hR hS hI hlo hok
  refine lv_ior (x := Int32.ofInt x) (y := Int32.ofInt x2) C.1 C.2.1 hd ?_
  rw [fs_e_ior]
  exact k p e R s m args below meth c C H locs lc hl hR hS hI hlo (hok.t.t.c (fs_I_in _))
theorem fs_e_ixor (x x2 : Int) : (Int32.ofInt x ^^^ Int32.ofInt x2) = Int32.ofInt (fs_xor x x2) := (Int32.ofInt_toInt _).symm
theorem a_ixor {x x2 : Int} (hd : decode md.2.1 pc = .ok (.ixor, 1)) (k : fs_At g md d z y (pc + 1) ls (fs_i (fs_xor x x2) :: st) M K) : fs_At g md d z y pc ls (fs_i x2 :: fs_i x :: st) M K := by
  intro p e R s m args below meth c C H locs lc hl hR hS hI hlo hok
  refine lv_ixor (x := Int32.ofInt x) (y := Int32.ofInt x2) C.1 C.2.1 hd ?_
  rw [fs_e_ixor]
  exact k p e R s m args below meth c C H locs lc hl hR hS hI hlo (hok.t.t.c (fs_I_in _))
theorem fs_e_ishl (x x2 : Int) : (Int32.ofInt x <<< (Int32.ofInt x2 &&& 31)) = Int32.ofInt (fs_shl x x2) := (Int32.ofInt_toInt _).symm
theorem a_ishl {x x2 : Int} (hd : decode md.2.1 pc = .ok (.ishl, 1)) (k : fs_At g md d z y (pc + 1) ls (fs_i (fs_shl x x2) :: st) M K) : fs_At g md d z y pc ls (fs_i x2 :: fs_i x :: st) M K := by
  intro p e R s m args below meth c C H locs lc hl hR hS hI hlo hok
  refine lv_ishl (x := Int32.ofInt x) (y := Int32.ofInt x2) C.1 C.2.1 hd ?_
  rw [fs_e_ishl]
  exact k p e R s m args below meth c C H locs lc hl hR hS hI hlo (hok.t.t.c (fs_I_in _))
theorem fs_e_ishr (x x2 : Int) : (Int32.ofInt x >>> (Int32.ofInt x2 &&& 31)) = Int32.ofInt (fs_shr x x2) := (Int32.ofInt_toInt _).symm
theorem a_ishr {x x2 : Int} (hd : decode md.2.1 pc = .ok (.ishr, 1)) (k : fs_At g md d z y (pc + 1) ls (fs_i (fs_shr x x2) :: st) M K) : fs_At g md d z y pc ls (fs_i x2 :: fs_i x :: st) M K := by
  intro p e R s m args below meth c C H locs lc hl hR hS hI hlo hok
  refine lv_ishr (x := Int32.ofInt x) (y := Int32.ofInt x2) C.1 C.2.1 hd ?_
  rw [fs_e_ishr]
  exact k p e R s m args below meth c C H locs lc hl hR hS hI hlo (hok.t.t.c (fs_I_in _))
theorem a_iushr {x x2 : Int} (hd : decode md.2.1 pc = .ok (.iushr, 1)) (k : fs_At g md d z y (pc + 1) ls (fs_i (fs_ushr x x2) :: st) M K) : fs_At g md d z y pc ls (fs_i x2 :: fs_i x :: st) M K := by
  intro p e R s m args below meth c C H locs lc hl hR hS hI hlo hok
  refine lv_iushr (x := Int32.ofInt x) (y := Int32.ofInt x2) (v := Int32.ofInt (fs_ushr x x2)) C.1 C.2.1 hd (Int32.ofInt_toInt _).symm ?_
  exact k p e R s m args below meth c C H locs lc hl hR hS hI hlo (hok.t.t.c (fs_I_in _))
theorem fs_e_land (x x2 : Int) : (Int64.ofInt x &&& Int64.ofInt x2) = Int64.ofInt (fs_land x x2) := (Int64.ofInt_toInt _).symm
theorem a_land {x x2 : Int} (hd : decode md.2.1 pc = .ok (.land, 1)) (k : fs_At g md d z y (pc + 1) ls (fs_l (fs_land x x2) :: st) M K) : fs_At g md d z y pc ls (fs_l x2 :: fs_l x :: st) M K := by
  intro p e R s m args below meth c C H locs lc hl hR hS hI hlo hok
  refine lv_land (x := Int64.ofInt x) (y := Int64.ofInt x2) C.1 C.2.1 hd ?_
  rw [fs_e_land]
  exact k p e R s m args below meth c C H locs lc hl hR hS hI hlo (hok.t.t.c (fs_L_in _))
theorem fs_e_lor (x x2 : Int) : (Int64.ofInt x ||| Int64.ofInt x2) = Int64.ofInt (fs_lor x x2) := (Int64.ofInt_toInt _).symm
theorem a_lor {x x2 : Int} (hd : decode md.2.1 pc = .ok (.lor, 1)) (k : fs_At g md d z y (pc + 1) ls (fs_l (fs_lor x x2) :: st) M K) : fs_At g md d z y pc ls (fs_l x2 :: fs_l x :: st) M K := by
  intro p e R s m args below meth c C H locs lc hl hR hS hI hlo hok
  refine lv_lor (x := Int64.ofInt x) (y := Int64.ofInt x2) C.1 C.2.1 hd ?_
  rw [fs_e_lor]
  exact k p e R s m args below meth c C H locs lc hl hR hS hI hlo (hok.t.t.c (fs_L_in _))
theorem a_lshl {x x2 : Int} (hd : decode md.2.1 pc = .ok (.lshl, 1)) (k : fs_At g md d z y (pc + 1) ls (fs_l (fs_lshl x x2) :: st) M K) : fs_At g md d z y pc ls (fs_i x2 :: fs_l x :: st) M K := by
  intro p e R s m args below meth c C H locs lc hl hR hS hI hlo hok
  refine lv_lshl (x := Int64.ofInt x) (y := Int32.ofInt x2) (v := Int64.ofInt (fs_lshl x x2)) C.1 C.2.1 hd (Int64.ofInt_toInt _).symm ?_
  exact k p e R s m args below meth c C H locs lc hl hR hS hI hlo (hok.t.t.c (fs_L_in _))
theorem a_lshr {x x2 : Int} (hd : decode md.2.1 pc = .ok (.lshr, 1)) (k : fs_At g md d z y (pc + 1) ls (fs_l (fs_lshr x x2) :: st) M K) : fs_At g md d z y pc ls (fs_i x2 :: fs_l x :: st) M K := by
  intro p e R s m args below meth c C H locs lc hl hR hS hI hlo hok
  refine lv_lshr (x := Int64.ofInt x) (y := Int32.ofInt x2) (v := Int64.ofInt (fs_lshr x x2)) C.1 C.2.1 hd (Int64.ofInt_toInt _).symm ?_
  exact k p e R s m args below meth c C H locs lc hl hR hS hI hlo (hok.t.t.c (fs_L_in _))
theorem fs_e_idiv (x x2 : Int) : (Int32.ofInt x / Int32.ofInt x2) = Int32.ofInt (fs_div x x2) := (Int32.ofInt_toInt _).symm
theorem a_idiv {x x2 : Int} (hd : decode md.2.1 pc = .ok (.idiv, 1)) (hne : ¬ x2 = 0) (k : fs_At g md d z y (pc + 1) ls (fs_i (fs_div x x2) :: st) M K) : fs_At g md d z y pc ls (fs_i x2 :: fs_i x :: st) M K := by
  intro p e R s m args below meth c C H locs lc hl hR hS hI hlo hok
  refine lv_idiv (x := Int32.ofInt x) (y := Int32.ofInt x2) C.1 C.2.1 hd (fun q => hne ((fs_eq32 hok.h fs_in0).mp q)) ?_
  rw [fs_e_idiv]
  exact k p e R s m args below meth c C H locs lc hl hR hS hI hlo (hok.t.t.c (fs_I_in _))
theorem fs_e_irem (x x2 : Int) : (Int32.ofInt x - Int32.ofInt x / Int32.ofInt x2 * Int32.ofInt x2) = Int32.ofInt (fs_rem x x2) := (Int32.ofInt_toInt _).symm
theorem a_irem {x x2 : Int} (hd : decode md.2.1 pc = .ok (.irem, 1)) (hne : ¬ x2 = 0) (k : fs_At g md d z y (pc + 1) ls (fs_i (fs_rem x x2) :: st) M K) : fs_At g md d z y pc ls (fs_i x2 :: fs_i x :: st) M K := by
  intro p e R s m args below meth c C H locs lc hl hR hS hI hlo hok
  refine lv_irem (x := Int32.ofInt x) (y := Int32.ofInt x2) C.1 C.2.1 hd (fun q => hne ((fs_eq32 hok.h fs_in0).mp q)) ?_
  rw [fs_e_irem]
  exact k p e R s m args below meth c C H locs lc hl hR hS hI hlo (hok.t.t.c (fs_I_in _))
theorem fs_e_ldiv (x x2 : Int) : (Int64.ofInt x / Int64.ofInt x2) = Int64.ofInt (fs_ldiv x x2) := (Int64.ofInt_toInt _).symm
theorem fs_in0L : fs_in64 0 := by unfold fs_in64; omega
theorem a_ldiv {x x2 : Int} (hd : decode md.2.1 pc = .ok (.ldiv, 1)) (hne : ¬ x2 = 0) (k : fs_At g md d z y (pc + 1) ls (fs_l (fs_ldiv x x2) :: st) M K) : fs_At g md d z y pc ls (fs_l x2 :: fs_l x :: st) M K := by
  intro p e R s m args below meth c C H locs lc hl hR hS hI hlo hok
  refine lv_ldiv (x := Int64.ofInt x) (y := Int64.ofInt x2) C.1 C.2.1 hd (fun q => hne ((fs_eq64 hok.h fs_in0L).mp q)) ?_
  rw [fs_e_ldiv]
  exact k p e R s m args below meth c C H locs lc hl hR hS hI hlo (hok.t.t.c (fs_L_in _))
theorem fs_i2l {x : Int} (h : fs_in32 x) : (Int32.ofInt x).toInt64 = Int64.ofInt x := by
  apply Int64.toInt.inj
  rw [Int32.toInt_toInt64, fs_toI h, fs_toL (by unfold fs_in32 at h; unfold fs_in64; omega)]
theorem fs_l2i (x : Int) : (Int64.ofInt x).toInt32 = Int32.ofInt (fs_w32 x) := by rw [fs_ofI, Int64.toInt32_ofInt]
theorem a_i2l {x : Int} (hd : decode md.2.1 pc = .ok (.i2l, 1)) (k : fs_At g md d z y (pc + 1) ls (fs_l x :: st) M K) : fs_At g md d z y pc ls (fs_i x :: st) M K := by
  intro p e R s m args below meth c C H locs lc hl hR hS hI hlo hok
  refine lv_i2l (x := Int32.ofInt x) C.1 C.2.1 hd (fs_i2l hok.h) ?_
  exact k p e R s m args below meth c C H locs lc hl hR hS hI hlo (hok.t.c (by have h : fs_in32 x := hok.h; show fs_in64 x; unfold fs_in32 at h; unfold fs_in64; omega))
theorem a_l2i {x : Int} (hd : decode md.2.1 pc = .ok (.l2i, 1)) (k : fs_At g md d z y (pc + 1) ls (fs_i (fs_w32 x) :: st) M K) : fs_At g md d z y pc ls (fs_l x :: st) M K := by
  intro p e R s m args below meth c C H locs lc hl hR hS hI hlo hok
  refine lv_l2i (x := Int64.ofInt x) C.1 C.2.1 hd (fs_l2i x) ?_
  exact k p e R s m args below meth c C H locs lc hl hR hS hI hlo (hok.t.c (fs_w32_in _))
theorem a_lcmp {x x2 : Int} (hd : decode md.2.1 pc = .ok (.lcmp, 1)) (k : fs_At g md d z y (pc + 1) ls (fs_i (fs_lcmp x x2) :: st) M K) : fs_At g md d z y pc ls (fs_l x2 :: fs_l x :: st) M K := by
  intro p e R s m args below meth c C H locs lc hl hR hS hI hlo hok
  refine W.lcmp (x := Int64.ofInt x) (y := Int64.ofInt x2) C.1 C.2.1 hd ?_
  rw [fs_lcmp_eq hok.t.h hok.h]
  exact k p e R s m args below meth c C H locs lc hl hR hS hI hlo (hok.t.t.c (fs_lcmp_in _ _))
theorem fs_cat1 (g : fs_G) {v : fs_V} (h : fs_isl v = false) : (fs_e g v).category = 1 := by
  rcases v with x | x | x
  · rfl
  · cases h
  · exact fs_rf_cat _
theorem a_dup {v : fs_V} (hd : decode md.2.1 pc = .ok (.dup, 1)) (hv : fs_isl v = false) (k : fs_At g md d z y (pc + 1) ls (v :: v :: st) M K) : fs_At g md d z y pc ls (v :: st) M K := by
  intro p e R s m args below meth c C H locs lc hl hR hS hI hlo hok
  refine lv_dup C.1 C.2.1 hd (fs_cat1 g hv) ?_
  exact k p e R s m args below meth c C H locs lc hl hR hS hI hlo (hok.c hok.h)
theorem a_pop {v : fs_V} (hd : decode md.2.1 pc = .ok (.pop, 1)) (hv : fs_isl v = false) (k : fs_At g md d z y (pc + 1) ls (st) M K) : fs_At g md d z y pc ls (v :: st) M K := by
  intro p e R s m args below meth c C H locs lc hl hR hS hI hlo hok
  refine lv_pop C.1 C.2.1 hd (fs_cat1 g hv) ?_
  exact k p e R s m args below meth c C H locs lc hl hR hS hI hlo (hok.t)
theorem a_dup2 {v w : fs_V} (hd : decode md.2.1 pc = .ok (.dup2, 1)) (hv : fs_isl v = false) (hw : fs_isl w = false) (k : fs_At g md d z y (pc + 1) ls (v :: w :: v :: w :: st) M K) : fs_At g md d z y pc ls (v :: w :: st) M K := by
  intro p e R s m args below meth c C H locs lc hl hR hS hI hlo hok
  refine lv_dup2_11 C.1 C.2.1 hd (fs_cat1 g hv) (fs_cat1 g hw) ?_
  exact k p e R s m args below meth c C H locs lc hl hR hS hI hlo ((hok.c hok.t.h).c hok.h)
theorem a_dup_x1 {v w : fs_V} (hd : decode md.2.1 pc = .ok (.dup_x1, 1)) (hv : fs_isl v = false) (hw : fs_isl w = false) (k : fs_At g md d z y (pc + 1) ls (v :: w :: v :: st) M K) : fs_At g md d z y pc ls (v :: w :: st) M K := by
  intro p e R s m args below meth c C H locs lc hl hR hS hI hlo hok
  refine lv_dup_x1 C.1 C.2.1 hd (fs_cat1 g hv) (fs_cat1 g hw) ?_
  exact k p e R s m args below meth c C H locs lc hl hR hS hI hlo ((((hok.t.t.c hok.h).c hok.t.h).c hok.h))
theorem a_if_eq {x : Int} {off : Int} {tgt : Nat} (hd : decode md.2.1 pc = .ok (.ifCond .eq off, 3)) (ht : (pc : Int) + off = (tgt : Int)) (kt : x = 0 → fs_At g md d z y tgt ls st M K) (kf : ¬ x = 0 → fs_At g md d z y (pc + 3) ls st M K) : fs_At g md d z y pc ls (fs_i x :: st) M K := by
  intro p e R s m args below meth c C H locs lc hl hR hS hI hlo hok

  exact lv_if_eq C.1 C.2.1 hd ht (fun hq => kt ((fs_eq32 hok.h fs_in0).mp hq) p e R s m args below meth c C H locs lc hl hR hS hI hlo hok.t) (fun hq => kf (fun q => hq ((fs_eq32 hok.h fs_in0).mpr q)) p e R s m args below meth c C H locs lc hl hR hS hI hlo hok.t)
theorem a_if_ne {x : Int} {off : Int} {tgt : Nat} (hd : decode md.2.1 pc = .ok (.ifCond .ne off, 3)) (ht : (pc : Int) + off = (tgt : Int)) (kt : ¬ x = 0 → fs_At g md d z y tgt ls st M K) (kf : x = 0 → fs_At g md d z y (pc + 3) ls st M K) : fs_At g md d z y pc ls (fs_i x :: st) M K := by
  intro p e R s m args below meth c C H locs lc hl hR hS hI hlo hok

  exact lv_if_ne C.1 C.2.1 hd ht (fun hq => kt (fun q => hq ((fs_eq32 hok.h fs_in0).mpr q)) p e R s m args below meth c C H locs lc hl hR hS hI hlo hok.t) (fun hq => kf ((fs_eq32 hok.h fs_in0).mp hq) p e R s m args below meth c C H locs lc hl hR hS hI hlo hok.t)
theorem a_if_lt {x : Int} {off : Int} {tgt : Nat} (hd : decode md.2.1 pc = .ok (.ifCond .lt off, 3)) (ht : (pc : Int) + off = (tgt : Int)) (kt : x < 0 → fs_At g md d z y tgt ls st M K) (kf : ¬ x < 0 → fs_At g md d z y (pc + 3) ls st M K) : fs_At g md d z y pc ls (fs_i x :: st) M K := by
  intro p e R s m args below meth c C H locs lc hl hR hS hI hlo hok

  exact lv_if_lt C.1 C.2.1 hd ht (fun hq => kt ((fs_lt32 hok.h fs_in0).mp hq) p e R s m args below meth c C H locs lc hl hR hS hI hlo hok.t) (fun hq => kf (fun q => hq ((fs_lt32 hok.h fs_in0).mpr q)) p e R s m args below meth c C H locs lc hl hR hS hI hlo hok.t)
theorem a_if_ge {x : Int} {off : Int} {tgt : Nat} (hd : decode md.2.1 pc = .ok (.ifCond .ge off, 3)) (ht : (pc : Int) + off = (tgt : Int)) (kt : 0 ≤ x → fs_At g md d z y tgt ls st M K) (kf : ¬ 0 ≤ x → fs_At g md d z y (pc + 3) ls st M K) : fs_At g md d z y pc ls (fs_i x :: st) M K := by
  intro p e R s m args below meth c C H locs lc hl hR hS hI hlo hok

  exact lv_if_ge C.1 C.2.1 hd ht (fun hq => kt ((fs_le32 fs_in0 hok.h).mp hq) p e R s m args below meth c C H locs lc hl hR hS hI hlo hok.t) (fun hq => kf (fun q => hq ((fs_le32 fs_in0 hok.h).mpr q)) p e R s m args below meth c C H locs lc hl hR hS hI hlo hok.t)
theorem a_if_gt {x : Int} {off : Int} {tgt : Nat} (hd : decode md.2.1 pc = .ok (.ifCond .gt off, 3)) (ht : (pc : Int) + off = (tgt : Int)) (kt : 0 < x → fs_At g md d z y tgt ls st M K) (kf : ¬ 0 < x → fs_At g md d z y (pc + 3) ls st M K) : fs_At g md d z y pc ls (fs_i x :: st) M K := by
  intro p e R s m args below meth c C H locs lc hl hR hS hI hlo hok

  exact lv_if_gt C.1 C.2.1 hd ht (fun hq => kt ((fs_lt32 fs_in0 hok.h).mp hq) p e R s m args below meth c C H locs lc hl hR hS hI hlo hok.t) (fun hq => kf (fun q => hq ((fs_lt32 fs_in0 hok.h).mpr q)) p e R s m args below meth c C H locs lc hl hR hS hI hlo hok.t)
theorem a_if_le {x : Int} {off : Int} {tgt : Nat} (hd : decode md.2.1 pc = .ok (.ifCond .le off, 3)) (ht : (pc : Int) + off = (tgt : Int)) (kt : x ≤ 0 → fs_At g md d z y tgt ls st M K) (kf : ¬ x ≤ 0 → fs_At g md d z y (pc + 3) ls st M K) : fs_At g md d z y pc ls (fs_i x :: st) M K := by
  intro p e R s m args below meth c C H locs lc hl hR hS hI hlo hok

  exact lv_if_le C.1 C.2.1 hd ht (fun hq => kt ((fs_le32 hok.h fs_in0).mp hq) p e R s m args below meth c C H locs lc hl hR hS hI hlo hok.t) (fun hq => kf (fun q => hq ((fs_le32 hok.h fs_in0).mpr q)) p e R s m args below meth c C H locs lc hl hR hS hI hlo hok.t)
theorem a_icmp_eq {x x2 : Int} {off : Int} {tgt : Nat} (hd : decode md.2.1 pc = .ok (.if_icmp .eq off, 3)) (ht : (pc : Int) + off = (tgt : Int)) (kt : x = x2 → fs_At g md d z y tgt ls st M K) (kf : ¬ x = x2 → fs_At g md d z y (pc + 3) ls st M K) : fs_At g md d z y pc ls (fs_i x2 :: fs_i x :: st) M K := by
  intro p e R s m args below meth c C H locs lc hl hR hS hI hlo hok

  exact lv_icmp_eq C.1 C.2.1 hd ht (fun hq => kt ((fs_eq32 hok.t.h hok.h).mp hq) p e R s m args below meth c C H locs lc hl hR hS hI hlo hok.t.t) (fun hq => kf (fun q => hq ((fs_eq32 hok.t.h hok.h).mpr q)) p e R s m args below meth c C H locs lc hl hR hS hI hlo hok.t.t)
theorem a_icmp_ne {x x2 : Int} {off : Int} {tgt : Nat} (hd : decode md.2.1 pc = .ok (.if_icmp .ne off, 3)) (ht : (pc : Int) + off = (tgt : Int)) (kt : ¬ x = x2 → fs_At g md d z y tgt ls st M K) (kf : x = x2 → fs_At g md d z y (pc + 3) ls st M K) : fs_At g md d z y pc ls (fs_i x2 :: fs_i x :: st) M K := by
  intro p e R s m args below meth c C H locs lc hl hR hS hI hlo hok

  exact lv_icmp_ne C.1 C.2.1 hd ht (fun hq => kt (fun q => hq ((fs_eq32 hok.t.h hok.h).mpr q)) p e R s m args below meth c C H locs lc hl hR hS hI hlo hok.t.t) (fun hq => kf ((fs_eq32 hok.t.h hok.h).mp hq) p e R s m args below meth c C H locs lc hl hR hS hI hlo hok.t.t)
theorem a_icmp_lt {x x2 : Int} {off : Int} {tgt : Nat} (hd : decode md.2.1 pc = .ok (.if_icmp .lt off, 3)) (ht : (pc : Int) + off = (tgt : Int)) (kt : x < x2 → fs_At g md d z y tgt ls st M K) (kf : ¬ x < x2 → fs_At g md d z y (pc + 3) ls st M K) : fs_At g md d z y pc ls (fs_i x2 :: fs_i x :: st) M K := by
  intro p e R s m args below meth c C H locs lc hl hR hS hI hlo hok

  exact lv_icmp_lt C.1 C.2.1 hd ht (fun hq => kt ((fs_lt32 hok.t.h hok.h).mp hq) p e R s m args below meth c C H locs lc hl hR hS hI hlo hok.t.t) (fun hq => kf (fun q => hq ((fs_lt32 hok.t.h hok.h).mpr q)) p e R s m args below meth c C H locs lc hl hR hS hI hlo hok.t.t)
theorem a_icmp_ge {x x2 : Int} {off : Int} {tgt : Nat} (hd : decode md.2.1 pc = .ok (.if_icmp .ge off, 3)) (ht : (pc : Int) + off = (tgt : Int)) (kt : x2 ≤ x → fs_At g md d z y tgt ls st M K) (kf : ¬ x2 ≤ x → fs_At g md d z y (pc + 3) ls st M K) : fs_At g md d z y pc ls (fs_i x2 :: fs_i x :: st) M K := by
  intro p e R s m args below meth c C H locs lc hl hR hS hI hlo hok

  exact lv_icmp_ge C.1 C.2.1 hd ht (fun hq => kt ((fs_le32 hok.h hok.t.h).mp hq) p e R s m args below meth c C H locs lc hl hR hS hI hlo hok.t.t) (fun hq => kf (fun q => hq ((fs_le32 hok.h hok.t.h).mpr q)) p e R s m args below meth c C H locs lc hl hR hS hI hlo hok.t.t)
theorem a_icmp_gt {x x2 : Int} {off : Int} {tgt : Nat} (hd : decode md.2.1 pc = .ok (.if_icmp .gt off, 3)) (ht : (pc : Int) + off = (tgt : Int)) (kt : x2 < x → fs_At g md d z y tgt ls st M K) (kf : ¬ x2 < x → fs_At g md d z y (pc + 3) ls st M K) : fs_At g md d z y pc ls (fs_i x2 :: fs_i x :: st) M K := by
  intro p e R s m args below meth c C H locs lc hl hR hS hI hlo hok

  exact lv_icmp_gt C.1 C.2.1 hd ht (fun hq => kt ((fs_lt32 hok.h hok.t.h).mp hq) p e R s m args below meth c C H locs lc hl hR hS hI hlo hok.t.t) (fun hq => kf (fun q => hq ((fs_lt32 hok.h hok.t.h).mpr q)) p e R s m args below meth c C H locs lc hl hR hS hI hlo hok.t.t)
theorem a_icmp_le {x x2 : Int} {off : Int} {tgt : Nat} (hd : decode md.2.1 pc = .ok (.if_icmp .le off, 3)) (ht : (pc : Int) + off = (tgt : Int)) (kt : x ≤ x2 → fs_At g md d z y tgt ls st M K) (kf : ¬ x ≤ x2 → fs_At g md d z y (pc + 3) ls st M K) : fs_At g md d z y pc ls (fs_i x2 :: fs_i x :: st) M K := by
  intro p e R s m args below meth c C H locs lc hl hR hS hI hlo hok

  exact lv_icmp_le C.1 C.2.1 hd ht (fun hq => kt ((fs_le32 hok.t.h hok.h).mp hq) p e R s m args below meth c C H locs lc hl hR hS hI hlo hok.t.t) (fun hq => kf (fun q => hq ((fs_le32 hok.t.h hok.h).mpr q)) p e R s m args below meth c C H locs lc hl hR hS hI hlo hok.t.t)
theorem a_goto {off : Int} {tgt : Nat} (hd : decode md.2.1 pc = .ok (.goto off, 3)) (ht : (pc : Int) + off = (tgt : Int)) (k : fs_At g md d z y tgt ls st M K) : fs_At g md d z y pc ls st M K := by
  intro p e R s m args below meth c C H locs lc hl hR hS hI hlo hok
  exact lv_goto C.1 C.2.1 hd ht (k p e R s m args below meth c C H locs lc hl hR hS hI hlo hok)
theorem a_tableIn {dflt lo hi : Int} {offs : Array Int} {len : Nat} {x off : Int} {tgt : Nat} (hd : decode md.2.1 pc = .ok (.tableswitch dflt lo hi offs, len)) (h1 : lo ≤ x) (h2 : x ≤ hi) (ho : offs[(x - lo).toNat]? = some off) (ht : (pc : Int) + off = (tgt : Int)) (k : fs_At g md d z y tgt ls st M K) : fs_At g md d z y pc ls (fs_i x :: st) M K := by
  intro p e R s m args below meth c C H locs lc hl hR hS hI hlo hok
  have hx : (Int32.ofInt x).toInt = x := fs_toI hok.h
  exact lv_tableIn C.1 C.2.1 hd (by rw [hx]; omega) (by rw [hx]; omega) (by rw [hx]; exact ho) ht (k p e R s m args below meth c C H locs lc hl hR hS hI hlo hok.t)
theorem a_tableOut {dflt lo hi : Int} {offs : Array Int} {len : Nat} {x : Int} {tgt : Nat} (hd : decode md.2.1 pc = .ok (.tableswitch dflt lo hi offs, len)) (h : x < lo ∨ hi < x) (ht : (pc : Int) + dflt = (tgt : Int)) (k : fs_At g md d z y tgt ls st M K) : fs_At g md d z y pc ls (fs_i x :: st) M K := by
  intro p e R s m args below meth c C H locs lc hl hR hS hI hlo hok
  have hx : (Int32.ofInt x).toInt = x := fs_toI hok.h
  exact lv_tableOut C.1 C.2.1 hd (by rw [hx]; exact h) ht (k p e R s m args below meth c C H locs lc hl hR hS hI hlo hok.t)
theorem a_lookup {dflt : Int} {ps : Array (Int × Int)} {len : Nat} {x off : Int} {tgt : Nat} (hd : decode md.2.1 pc = .ok (.lookupswitch dflt ps, len)) (hp : (ps.toList.zip (ps.toList.drop 1)).all (fun (a, next) => a.1 < next.1) = true) (ho : Op.lookupswitch.offset ps.toList dflt x = off) (ht : (pc : Int) + off = (tgt : Int)) (k : fs_At g md d z y tgt ls st M K) : fs_At g md d z y pc ls (fs_i x :: st) M K := by
  intro p e R s m args below meth c C H locs lc hl hR hS hI hlo hok
  have hx : (Int32.ofInt x).toInt = x := fs_toI hok.h
  exact lv_lookup C.1 C.2.1 hd hp (by rw [hx]; exact ho) ht (k p e R s m args below meth c C H locs lc hl hR hS hI hlo hok.t)
theorem fs_Qof {s t : State} {args : Array Value} {H : Heap} {locs : List Loc} {v : Option fs_V} (hR : fs_R g z.1 z.2.2.1 M H) (hS : va_S (fs_A g) s.heap H locs) (hI : fs_XI z.1 M) (hv : ∀ w, v = some w → fs_ok w) (hK : K v M) (ht : t.heap = H) : fs_Q g z.1 z.2.2.1 K args s (.returned (v.map (fs_e g))) t :=
  ⟨⟨v, M, rfl, hK, by rw [ht]; exact hR, hI, hv⟩, hS.F ht⟩
theorem a_ireturn {x : Int} {ty : FieldType} (hd : decode md.2.1 pc = .ok (.ireturn, 1)) (hr : md.2.2.2 = some ty) (hn : narrow ty (.int (Int32.ofInt x)) = .int (Int32.ofInt x)) (hy : y.1 = z.2.2.1 ∧ y.2.1 ≤ z.2.2.2.1 ∧ y.2.2 ≤ z.2.2.2.2) (hK : K (some (fs_i x)) M) : fs_At g md d z y pc ls [fs_i x] M K := by
  intro p e R s m args below meth c C H locs lc hl hR hS hI hlo hok
  refine fs_hsz (fun hz => ?_)
  have hR := hR.end C.2.2.2.2.2.2.2.1 hS hz hy.1
  refine W.widen hy.2.1 hy.2.2 ?_
  exact W.zret C.1 C.2.1 (C.2.2.2.1.trans hr) hn (fun t ht hW => fs_Qof (v := some (fs_i x)) hR hS hI (fun w hw => by cases hw; exact hok.h) hK ht) hS.2.2 hd C.2.2.2.2.1
theorem a_lreturn {x : Int} (hd : decode md.2.1 pc = .ok (.lreturn, 1)) (hr : md.2.2.2 = some .long) (hy : y.1 = z.2.2.1 ∧ y.2.1 ≤ z.2.2.2.1 ∧ y.2.2 ≤ z.2.2.2.2) (hK : K (some (fs_l x)) M) : fs_At g md d z y pc ls [fs_l x] M K := by
  intro p e R s m args below meth c C H locs lc hl hR hS hI hlo hok
  refine fs_hsz (fun hz => ?_)
  have hR := hR.end C.2.2.2.2.2.2.2.1 hS hz hy.1
  refine W.widen hy.2.1 hy.2.2 ?_
  exact W.lret C.1 C.2.1 (C.2.2.2.1.trans hr) (fun t ht hW => fs_Qof (v := some (fs_l x)) hR hS hI (fun w hw => by cases hw; exact hok.h) hK ht) hS.2.2 hd C.2.2.2.2.1
theorem a_return (hd : decode md.2.1 pc = .ok (.return_, 1)) (hr : md.2.2.2 = none) (hy : y.1 = z.2.2.1 ∧ y.2.1 ≤ z.2.2.2.1 ∧ y.2.2 ≤ z.2.2.2.2) (hK : K none M) : fs_At g md d z y pc ls [] M K := by
  intro p e R s m args below meth c C H locs lc hl hR hS hI hlo hok
  refine fs_hsz (fun hz => ?_)
  have hR := hR.end C.2.2.2.2.2.2.2.1 hS hz hy.1
  refine W.widen hy.2.1 hy.2.2 ?_
  exact W.vret C.1 C.2.1 (C.2.2.2.1.trans hr) (fun t ht hW => fs_Qof (v := none) hR hS hI (fun w hw => by cases hw) hK ht) hS.2.2 hd C.2.2.2.2.1
end OPS
