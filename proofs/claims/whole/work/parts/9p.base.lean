-- ===== printed by program (wip/whole/gen9p.py): the stores of the two constructors, in order; the memory behind t of them =====
def fs_evs : List (Int × Int × Int) := [(1, 0, 2), (1, 1, 3), (1, 2, 4), (1, 3, 5), (1, 4, 0), (1, 5, 0), (1, 6, 6), (1, 7, 7), (1, 8, 8), (1, 9, 0), (1, 10, 0), (1, 11, 0), (9, 0, 10), (9, 1, 11), (9, 2, 0), (9, 3, 12), (9, 4, 13), (9, 5, 14), (9, 6, 0), (9, 7, 0), (9, 8, 0), (9, 9, 0), (9, 10, 0), (9, 11, 0), (9, 12, 0), (9, 13, 0), (1, 12, 9), (0, 0, 1), (15, 0, 16), (15, 1, 17), (15, 2, 18), (15, 3, 19), (15, 4, 0), (15, 5, 0), (15, 6, 20), (15, 7, 21), (15, 8, 22), (15, 9, 0), (15, 10, 0), (15, 11, 0), (23, 0, 24), (23, 1, 25), (23, 2, 0), (23, 3, 26), (23, 4, 27), (23, 5, 28), (23, 6, 0), (23, 7, 0), (23, 8, 0), (23, 9, 0), (23, 10, 0), (23, 11, 0), (23, 12, 0), (23, 13, 0), (15, 12, 23), (0, 1, 15), (29, 0, 30), (29, 1, 0), (29, 2, 0), (29, 3, -1), (29, 5, 0), (29, 6, 0), (29, 7, 1035), (29, 8, 0), (29, 9, 0), (29, 10, 0), (29, 11, 0), (29, 4, 15), (0, 2, 29), (31, 0, 32), (31, 1, 36), (31, 2, 0), (31, 3, 0), (0, 3, 31), (37, 0, 38), (37, 1, 42), (37, 2, 0), (37, 3, 0), (0, 4, 37), (43, 2, -1), (43, 3, 44), (43, 4, 45), (43, 5, 49), (43, 6, 50), (43, 7, 0), (43, 0, 1), (43, 1, 31), (51, 0, 0), (51, 1, 1), (51, 2, 0), (51, 3, 0), (51, 4, 0), (51, 5, 0), (51, 6, 0), (44, 0, 51), (52, 0, 0), (52, 1, 1), (52, 2, 0), (52, 3, 0), (52, 4, 0), (52, 5, 0), (52, 6, 0), (44, 1, 52), (53, 0, 0), (53, 1, 1), (53, 2, 0), (53, 3, 0), (53, 4, 0), (53, 5, 0), (53, 6, 0), (44, 2, 53), (0, 5, 43), (54, 0, 55), (54, 1, 56), (54, 2, 0), (54, 3, 0), (0, 6, 54), (57, 0, 58), (57, 1, 59), (57, 2, 0), (57, 3, 0), (0, 7, 57), (60, 0, 61), (60, 1, 62), (60, 2, 0), (60, 3, 63), (60, 4, 67), (60, 5, 0), (60, 8, 0), (60, 9, 0), (60, 10, 71), (60, 11, 72), (60, 12, 73), (60, 13, 77), (60, 14, 82), (60, 6, 1), (60, 7, 43), (83, 0, 0), (83, 1, 1), (83, 2, 0), (83, 3, 0), (83, 4, 0), (83, 5, 0), (83, 6, 0), (71, 0, 83), (84, 0, 0), (84, 1, 1), (84, 2, 0), (84, 3, 0), (84, 4, 0), (84, 5, 0), (84, 6, 0), (71, 1, 84), (85, 0, 0), (85, 1, 1), (85, 2, 0), (85, 3, 0), (85, 4, 0), (85, 5, 0), (85, 6, 0), (71, 2, 85), (86, 0, 0), (86, 1, 1), (86, 2, 0), (86, 3, 0), (86, 4, 0), (86, 5, 0), (86, 6, 0), (71, 3, 86), (87, 0, 0), (87, 1, 1), (87, 2, 0), (87, 3, 0), (87, 4, 0), (87, 5, 0), (87, 6, 0), (71, 4, 87), (88, 0, 0), (88, 1, 1), (88, 2, 0), (88, 3, 0), (88, 4, 0), (88, 5, 0), (88, 6, 0), (71, 5, 88), (89, 0, 0), (89, 1, 1), (89, 2, 0), (89, 3, 0), (89, 4, 0), (89, 5, 0), (89, 6, 0), (71, 6, 89), (0, 8, 60), (90, 0, 91), (90, 1, 92), (90, 2, 93), (90, 3, 94), (90, 4, 0), (90, 5, -1), (0, 9, 90), (95, 0, 96), (95, 1, 0), (95, 2, 0), (97, 0, 98), (97, 1, 102), (97, 2, 0), (97, 3, 0), (96, 0, 97), (103, 0, 104), (103, 1, 108), (103, 2, 0), (103, 3, 0), (96, 1, 103), (109, 0, 110), (109, 1, 114), (109, 2, 0), (109, 3, 0), (96, 2, 109), (115, 0, 116), (115, 1, 120), (115, 2, 0), (115, 3, 0), (96, 3, 115), (121, 0, 122), (121, 1, 126), (121, 2, 0), (121, 3, 0), (96, 4, 121), (127, 0, 128), (127, 1, 132), (127, 2, 0), (127, 3, 0), (96, 5, 127), (133, 0, 134), (133, 1, 138), (133, 2, 0), (133, 3, 0), (96, 6, 133), (139, 0, 140), (139, 1, 144), (139, 2, 0), (139, 3, 0), (96, 7, 139), (145, 0, 146), (145, 1, 150), (145, 2, 0), (145, 3, 0), (96, 8, 145), (151, 0, 152), (151, 1, 156), (151, 2, 0), (151, 3, 0), (96, 9, 151), (157, 0, 158), (157, 1, 162), (157, 2, 0), (157, 3, 0), (96, 10, 157), (163, 0, 164), (163, 1, 168), (163, 2, 0), (163, 3, 0), (96, 11, 163), (169, 0, 170), (169, 1, 174), (169, 2, 0), (169, 3, 0), (96, 12, 169), (175, 0, 176), (175, 1, 180), (175, 2, 0), (175, 3, 0), (96, 13, 175), (181, 0, 182), (181, 1, 186), (181, 2, 0), (181, 3, 0), (96, 14, 181), (187, 0, 188), (187, 1, 192), (187, 2, 0), (187, 3, 0), (96, 15, 187), (193, 0, 194), (193, 1, 198), (193, 2, 0), (193, 3, 0), (96, 16, 193), (199, 0, 200), (199, 1, 204), (199, 2, 0), (199, 3, 0), (96, 17, 199), (205, 0, 206), (205, 1, 210), (205, 2, 0), (205, 3, 0), (96, 18, 205), (211, 0, 212), (211, 1, 216), (211, 2, 0), (211, 3, 0), (96, 19, 211), (0, 10, 95), (217, 0, 218), (217, 1, 222), (217, 2, 0), (217, 3, 0), (0, 11, 217), (223, 0, 224), (223, 1, 225), (223, 2, 0), (223, 3, 0), (0, 12, 223), (0, 13, 0), (0, 14, 0), (0, 15, -1), (0, 16, -1), (226, 1, 227), (226, 3, 228), (226, 4, 229), (226, 5, 230), (226, 6, 231), (226, 7, 232), (226, 8, 233), (226, 9, 234), (226, 10, 235), (226, 11, 236), (226, 12, 237), (226, 13, 238), (226, 14, 239), (226, 15, 240), (226, 26, -1), (226, 29, 241), (226, 30, 242), (226, 31, 243), (226, 32, 244), (226, 33, 245), (226, 34, 246), (226, 35, 247), (226, 36, 248), (226, 39, 249), (226, 40, 250), (226, 42, -1), (226, 43, -1), (226, 44, -1), (226, 45, 251), (226, 46, 252), (226, 48, 253), (226, 49, 254), (226, 50, 255), (226, 51, 256), (226, 52, 257), (226, 53, 258), (226, 54, 259), (226, 55, 260), (226, 57, 261), (226, 58, 262), (226, 64, 263), (226, 65, 264), (226, 69, -1), (226, 70, 265), (226, 71, 266), (226, 72, 267), (226, 73, 268), (226, 76, 269), (242, 0, 0), (242, 1, 0), (242, 2, 0), (243, 0, 0), (244, 0, 0), (245, 0, 0), (246, 0, 0)]
def fs_d0 (t : FieldType) : Int := match t with
  | .object _ => -1
  | .array _ => -1
  | _ => 0
/-- what a place holds before anything is stored -/
def fs_df (a k : Int) : Int := match fs_kinds[a.toNat]? with
  | some (.inl ci) => fs_d0 (fs_ft ci k.toNat)
  | some (.inr (ty, n)) => if ty = 3 ∨ ty = 4 then (if 0 ≤ k ∧ k < n then a + 1 + k else -1) else if 3 ≤ ty then -1 else 0
  | none => 0
def fs_Tt (t : Nat) : fs_M := (fs_evs.take t).foldl (fun M e => fs_st M e.1 e.2.1 e.2.2) fs_df
theorem fs_Tt_st {t : Nat} {a k v : Int} (h : fs_evs[t]? = some (a, k, v)) : fs_st (fs_Tt t) a k v = fs_Tt (t + 1) := by
  unfold fs_Tt
  rw [List.take_add_one, h]
  simp only [Option.toList_some, List.foldl_append, List.foldl_cons, List.foldl_nil]
theorem fs_Tt_hi {t n : Nat} (h : (fs_evs.take t).all (fun e => decide (e.1 < (n : Int))) = true) {a : Int} (ha : (n : Int) ≤ a) (k : Int) : fs_Tt t a k = fs_df a k := by
  unfold fs_Tt
  have key : ∀ (l : List (Int × Int × Int)) (M : fs_M), l.all (fun e => decide (e.1 < (n : Int))) = true → l.foldl (fun M e => fs_st M e.1 e.2.1 e.2.2) M a k = M a k := by
    intro l
    induction l with
    | nil => intro M _; rfl
    | cons e l ih =>
      intro M hl
      rw [List.all_cons, Bool.and_eq_true] at hl
      rw [List.foldl_cons, ih _ hl.2]
      have h1 : e.1 < (n : Int) := of_decide_eq_true hl.1
      unfold fs_st
      rw [if_neg (by omega)]
  exact key _ _ h
def fs_okt (t : FieldType) : Bool := match t with
  | .int => true
  | .boolean => true
  | .long => true
  | .object _ => true
  | .array _ => true
  | _ => false
theorem fs_okt_all : ∀ ci, ci < 12 → ∀ k, k < fs_nf ci → fs_okt (fs_ft ci k) = true := by decide +kernel
theorem fs_f_d0 {g : fs_G} {t : FieldType} (h : fs_okt t = true) : fs_f g t (fs_d0 t) = defaultValue t := by
  cases t <;> first | rfl | cases h
theorem aw_int : Cond.arrayClass (newarray.typeOf .int) ∈ fs_B := (fs_inB 244 (by decide +kernel) rfl)
theorem aw_long : Cond.arrayClass (newarray.typeOf .long) ∈ fs_B := (fs_inB 245 (by decide +kernel) rfl)
theorem aw_boolean : Cond.arrayClass (newarray.typeOf .boolean) ∈ fs_B := (fs_inB 1645 (by decide +kernel) rfl)
theorem ow_i : Cond.instanceMethod Lib.objectInit ∈ fs_B := (fs_inB 181 (by decide +kernel) rfl)
theorem ow_c : Cond.code Lib.objectInit ⟨#[0xb1]⟩ 1 none ∈ fs_B := (fs_inB 182 (by decide +kernel) rfl)
theorem p_val {t : FieldType} {m x : Int} {v : fs_V} (h : m = x) (hv : fs_fv t x = v) : fs_fv t m = v := by rw [h]; exact hv
section PROWS
variable {g : fs_G} {md : fs_D} {d : Nat} {z : fs_Z} {y : Nat × Nat × Nat} {pc : Nat} {ls : List (Nat × fs_V)} {st : List fs_V} {M : fs_M} {K : fs_K} {t : Nat}
theorem a_enter2 {args : List fs_V} (hpl : plainFor md.1 = true) (hsz : fs_wt args ≤ md.2.2.1) (hls : fs_args 0 args = ls) (h : fs_At g md d z (z.2.1, 0, 0) 0 ls [] M K) : fs_Call g md d z args M K :=
  fs_enter hpl (by rw [fs_lgl]; exact hsz) (by rw [fs_args_lv, hls]) (by rw [← hls]; exact fs_args_mem args 0) h
theorem p_newG {PX : Code → Prop} {Q : List Frame → Array Value → State → State → Prop} {idx ci : Nat} {C : String} {T : u_T} {N : Nat} {ty : Nat → FieldType} (hz : z.1 = 1) (hd : decode md.2.1 pc = .ok (.new idx, 3)) (hk : fs_KC ci C T N ty) (hw : Cond.classLink md.1.cls idx C ∈ fs_B ∧ Cond.instantiable C N ∈ fs_B ∧ Cond.initialized C ∈ fs_B) (ho : fs_kinds[y.1]? = some (.inl ci)) (hci : ci < 12) (ht : (fs_evs.take t).all (fun e => decide (e.1 < (y.1 : Int))) = true)
    (hc : y.2.1 + 1 ≤ z.2.2.2.1 ∧ y.2.2 + N ≤ z.2.2.2.2) (kk : fs_Ag g md d z (y.1 + 1, y.2.1 + 1, y.2.2 + N) (pc + 3) ls (fs_r (y.1 : Int) :: st) (fs_Tt t) PX Q) : fs_Ag g md d z y pc ls st (fs_Tt t) PX Q :=
  g_new hz hd hk hw ho (fun j hj => by
    rw [fs_Tt_hi ht (Int.le_refl _)]
    have e : fs_df (y.1 : Int) (j : Int) = fs_d0 (fs_ft ci j) := by
      unfold fs_df
      rw [Int.toNat_natCast, ho]
      simp
    rw [e]
    exact fs_f_d0 (fs_okt_all ci hci j (by rw [hk.2.2.2.2.1]; exact hj))) hc kk
theorem p_new {idx ci : Nat} {C : String} {T : u_T} {N : Nat} {ty : Nat → FieldType} (hz : z.1 = 1) (hd : decode md.2.1 pc = .ok (.new idx, 3)) (hk : fs_KC ci C T N ty) (hw : Cond.classLink md.1.cls idx C ∈ fs_B ∧ Cond.instantiable C N ∈ fs_B ∧ Cond.initialized C ∈ fs_B) (ho : fs_kinds[y.1]? = some (.inl ci)) (hci : ci < 12) (ht : (fs_evs.take t).all (fun e => decide (e.1 < (y.1 : Int))) = true)
    (hc : y.2.1 + 1 ≤ z.2.2.2.1 ∧ y.2.2 + N ≤ z.2.2.2.2) (kk : fs_At g md d z (y.1 + 1, y.2.1 + 1, y.2.2 + N) (pc + 3) ls (fs_r (y.1 : Int) :: st) (fs_Tt t) K) : fs_At g md d z y pc ls st (fs_Tt t) K := g_ofA (p_newG hz hd hk hw ho hci ht hc (g_toA kk))
theorem p_newarrayG {PX : Code → Prop} {Q : List Frame → Array Value → State → State → Prop} {aty : ArrayType} {ty n : Nat} (hz : z.1 = 1) (hd : decode md.2.1 pc = .ok (.newarray aty, 2)) (hw : Cond.arrayClass (newarray.typeOf aty) ∈ fs_B) (hty : (ty, aty) ∈ [(0, ArrayType.int), (1, ArrayType.boolean), (2, ArrayType.long)]) (ho : fs_kinds[y.1]? = some (.inr (ty, n))) (hn : n ≤ 10000) (ht : (fs_evs.take t).all (fun e => decide (e.1 < (y.1 : Int))) = true)
    (hc : y.2.1 + 1 ≤ z.2.2.2.1 ∧ y.2.2 + n ≤ z.2.2.2.2) (kk : fs_Ag g md d z (y.1 + 1, y.2.1 + 1, y.2.2 + n) (pc + 2) ls (fs_r (y.1 : Int) :: st) (fs_Tt t) PX Q) : fs_Ag g md d z y pc ls (fs_i n :: st) (fs_Tt t) PX Q :=
  g_newarray hz hd hw hty ho hn (fun j => by
    rw [fs_Tt_hi ht (Int.le_refl _)]
    unfold fs_df
    rw [Int.toNat_natCast, ho]
    simp only [List.mem_cons, List.not_mem_nil, or_false, Prod.mk.injEq] at hty
    rcases hty with ⟨rfl, -⟩ | ⟨rfl, -⟩ | ⟨rfl, -⟩ <;> simp) hc kk
theorem p_newarray {aty : ArrayType} {ty n : Nat} (hz : z.1 = 1) (hd : decode md.2.1 pc = .ok (.newarray aty, 2)) (hw : Cond.arrayClass (newarray.typeOf aty) ∈ fs_B) (hty : (ty, aty) ∈ [(0, ArrayType.int), (1, ArrayType.boolean), (2, ArrayType.long)]) (ho : fs_kinds[y.1]? = some (.inr (ty, n))) (hn : n ≤ 10000) (ht : (fs_evs.take t).all (fun e => decide (e.1 < (y.1 : Int))) = true)
    (hc : y.2.1 + 1 ≤ z.2.2.2.1 ∧ y.2.2 + n ≤ z.2.2.2.2) (kk : fs_At g md d z (y.1 + 1, y.2.1 + 1, y.2.2 + n) (pc + 2) ls (fs_r (y.1 : Int) :: st) (fs_Tt t) K) : fs_At g md d z y pc ls (fs_i n :: st) (fs_Tt t) K := g_ofA (p_newarrayG hz hd hw hty ho hn ht hc (g_toA kk))
theorem p_anewarray {idx ty n : Nat} {C : String} (hz : z.1 = 1) (hd : decode md.2.1 pc = .ok (.anewarray idx, 3)) (hw : Cond.classLink md.1.cls idx C ∈ fs_B) (hty : (ty, C) ∈ [(5, "FirstSill$Goer"), (6, "FirstSill$Plan"), (7, "FirstSill$Token")]) (ho : fs_kinds[y.1]? = some (.inr (ty, n))) (hn : n ≤ 10000) (ht : (fs_evs.take t).all (fun e => decide (e.1 < (y.1 : Int))) = true)
    (hc : y.2.1 + 1 ≤ z.2.2.2.1 ∧ y.2.2 + n ≤ z.2.2.2.2) (kk : fs_At g md d z (y.1 + 1, y.2.1 + 1, y.2.2 + n) (pc + 3) ls (fs_r (y.1 : Int) :: st) (fs_Tt t) K) : fs_At g md d z y pc ls (fs_i n :: st) (fs_Tt t) K :=
  g_ofA (g_anewarray hz hd hw hty ho hn (fun j => by
    rw [fs_Tt_hi ht (Int.le_refl _)]
    unfold fs_df
    rw [Int.toNat_natCast, ho]
    simp only [List.mem_cons, List.not_mem_nil, or_false, Prod.mk.injEq] at hty
    rcases hty with ⟨rfl, -⟩ | ⟨rfl, -⟩ | ⟨rfl, -⟩ <;> simp) hc (g_toA kk))
theorem p_multi {idx ty ti n k : Nat} {t1 : FieldType} (hz : z.1 = 1) (hd : decode md.2.1 pc = .ok (.multianewarray idx 2, 4)) (hw : Cond.classLink md.1.cls idx ("[" ++ (FieldType.array t1).toString) ∈ fs_B ∧ Cond.arrayClass t1 ∈ fs_B) (hty : (ty, ti, t1) ∈ [(3, 0, FieldType.int), (4, 2, FieldType.long)]) (ho : fs_kinds[y.1]? = some (.inr (ty, n))) (hi : ∀ j, j < n → fs_kinds[y.1 + 1 + j]? = some (.inr (ti, k))) (hn : n ≤ 10000 ∧ k ≤ 10000) (ht : (fs_evs.take t).all (fun e => decide (e.1 < (y.1 : Int))) = true)
    (hc : y.2.1 + (1 + n) ≤ z.2.2.2.1 ∧ y.2.2 + (n + n * k) ≤ z.2.2.2.2) (kk : fs_At g md d z (y.1 + (1 + n), y.2.1 + (1 + n), y.2.2 + (n + n * k)) (pc + 4) ls (fs_r (y.1 : Int) :: st) (fs_Tt t) K) : fs_At g md d z y pc ls (fs_i k :: fs_i n :: st) (fs_Tt t) K :=
  g_ofA (g_multi hz hd hw hty ho hi hn (fun j hj => by
    simp only [List.mem_cons, List.not_mem_nil, or_false, Prod.mk.injEq] at hty
    refine ⟨?_, fun i => ?_⟩
    · rw [fs_Tt_hi ht (Int.le_refl _)]
      unfold fs_df
      rw [Int.toNat_natCast, ho]
      rcases hty with ⟨rfl, -, -⟩ | ⟨rfl, -, -⟩
      · simp [hj]
      · simp [hj]
    · rw [fs_Tt_hi ht (by omega)]
      unfold fs_df
      rw [Int.toNat_natCast, hi j hj]
      rcases hty with ⟨-, rfl, -⟩ | ⟨-, rfl, -⟩ <;> simp) hc (g_toA kk))
theorem p_put1 {idx ci k : Nat} {o x : Int} {v : fs_V} (hd : decode md.2.1 pc = .ok (.putfield idx, 3)) (hf : fs_FL md.1.cls idx ci k false) (hv : fs_fv (fs_ft ci k) x = v) (ho : fs_isO ci o) (hn : o.toNat < y.1) (hz : z.1 = 1) (hnar : narrow (fs_ft ci k) (fs_f g (fs_ft ci k) x) = fs_f g (fs_ft ci k) x ∧ fits (fs_ft ci k) (fs_f g (fs_ft ci k) x) = true) (he : fs_evs[t]? = some (o, (k : Int), x))
    (kk : fs_At g md d z y (pc + 3) ls st (fs_Tt (t + 1)) K) : fs_At g md d z y pc ls (v :: fs_r o :: st) (fs_Tt t) K := g_ofA (g_put1 hd hf ho hn hv hz hnar (by rw [fs_Tt_st he]; exact g_toA kk))
theorem p_putF {idx ci k : Nat} {o x : Int} {v : fs_V} (hd : decode md.2.1 pc = .ok (.putfield idx, 3)) (hf : fs_FLF md.1.cls idx ci k) (hin : md.1.name = "<init>") (hcn : (fs_cl[ci]?).map (fun q => q.1) = some md.1.cls) (hv : fs_fv (fs_ft ci k) x = v) (ho : fs_isO ci o) (hn : o.toNat < y.1) (hz : z.1 = 1) (hnar : narrow (fs_ft ci k) (fs_f g (fs_ft ci k) x) = fs_f g (fs_ft ci k) x ∧ fits (fs_ft ci k) (fs_f g (fs_ft ci k) x) = true) (he : fs_evs[t]? = some (o, (k : Int), x))
    (kk : fs_At g md d z y (pc + 3) ls st (fs_Tt (t + 1)) K) : fs_At g md d z y pc ls (v :: fs_r o :: st) (fs_Tt t) K := g_ofA (g_putF hd hf ho hn hv hz hin hcn hnar (by rw [fs_Tt_st he]; exact g_toA kk))
theorem p_aast {ty ci n : Nat} {o i v : Int} (hz : z.1 = 1) (hd : decode md.2.1 pc = .ok (.aastore, 1)) (ho : fs_isA ty n o) (hn : o.toNat < y.1) (hv : fs_isO ci v) (hvn : v.toNat < y.1) (hty : (ty, ci) ∈ [(5, 2), (6, 6)]) (h0 : 0 ≤ i) (h1 : i < n) (he : fs_evs[t]? = some (o, i, v)) (kk : fs_At g md d z y (pc + 1) ls st (fs_Tt (t + 1)) K) : fs_At g md d z y pc ls (fs_r v :: fs_i i :: fs_r o :: st) (fs_Tt t) K :=
  g_ofA (g_aast hz hd ho hn hv hvn hty h0 h1 (by rw [fs_Tt_st he]; exact g_toA kk))
theorem p_iast {n : Nat} {o i x : Int} (hd : decode md.2.1 pc = .ok (.iastore, 1)) (ho : fs_isA 0 n o) (hn : o.toNat < y.1) (h0 : 0 ≤ i) (h1 : i < n) (he : fs_evs[t]? = some (o, i, x)) (kk : fs_At g md d z y (pc + 1) ls st (fs_Tt (t + 1)) K) : fs_At g md d z y pc ls (fs_i x :: fs_i i :: fs_r o :: st) (fs_Tt t) K :=
  a_iastore hd ho hn h0 h1 (by rw [fs_Tt_st he]; exact kk)
theorem p_iald {n : Nat} {o i v : Int} (hd : decode md.2.1 pc = .ok (.iaload, 1)) (ho : fs_isA 0 n o) (hn : o.toNat < y.1) (h0 : 0 ≤ i) (h1 : i < n) (hv : M o i = v) (kk : fs_At g md d z y (pc + 1) ls (fs_i v :: st) M K) : fs_At g md d z y pc ls (fs_i i :: fs_r o :: st) M K :=
  a_iaload hd ho hn h0 h1 (by rw [hv]; exact kk)
theorem p_objinit {idx : Nat} {o : Int} {q : Nat ⊕ (Nat × Nat)} (hd : decode md.2.1 pc = .ok (.invokespecial idx, 3)) (hl : Cond.methodLink md.1.cls idx Lib.objectInit ∈ fs_B ∧ Cond.instanceMethod Lib.objectInit ∈ fs_B ∧ Cond.code Lib.objectInit ⟨#[0xb1]⟩ 1 none ∈ fs_B) (ho : 0 ≤ o ∧ fs_kinds[o.toNat]? = some q) (hst : st = []) (hdd : 1 ≤ d) (kk : fs_At g md d z y (pc + 3) ls st M K) : fs_At g md d z y pc ls (fs_r o :: st) M K := g_ofA (g_objinit hd hl ho hst hdd (g_toA kk))
end PROWS

