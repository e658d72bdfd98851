-- ===== by hand: the rows of the first phase =====
section FIRST
variable {g : fs_G} {md : fs_D} {d : Nat} {z : fs_Z} {y : Nat × Nat × Nat} {pc : Nat} {ls : List (Nat × fs_V)} {st : List fs_V} {M : fs_M} {PX : Code → Prop} {Q : List Frame → Array Value → State → State → Prop}
theorem g_new {idx ci : Nat} {C : String} {T : u_T} {N : Nat} {ty : Nat → FieldType} (hz : z.1 = 1) (hd : decode md.2.1 pc = .ok (.new idx, 3)) (hk : fs_KC ci C T N ty) (hw : Cond.classLink md.1.cls idx C ∈ fs_B ∧ Cond.instantiable C N ∈ fs_B ∧ Cond.initialized C ∈ fs_B) (ho : fs_kinds[y.1]? = some (.inl ci)) (hm : ∀ j, j < N → fs_f g (fs_ft ci j) (M (y.1 : Int) j) = defaultValue (fs_ft ci j))
    (hc : y.2.1 + 1 ≤ z.2.2.2.1 ∧ y.2.2 + N ≤ z.2.2.2.2) (kk : fs_Ag g md d z (y.1 + 1, y.2.1 + 1, y.2.2 + N) (pc + 3) ls (fs_r (y.1 : Int) :: st) M PX Q) : fs_Ag g md d z y pc ls st M PX Q := by
  intro p e R s m args below meth c C0 hPX H locs lc hl hR hS hI hlo hok
  refine fs_hsz (fun hsz => ?_)
  have hts : ∀ w ∈ fs_B, w.before args s = true := C0.2.2.2.2.2.2.1
  have hSt := C0.2.2.2.2.2.2.2.1
  have hroom := C0.2.2.2.2.2.2.2.2.1
  have hH : H.size = g_sz g + y.1 := fs_sz1 hSt hS hR hsz hz
  have hKn := hSt.1.1 ci _ hk.1
  refine W.newcK C0.1 C0.2.1 C0.2.2.2.2.2.1 (hts _ hw.1) (hts _ hw.2.1) (hts _ hw.2.2) rfl hd (Nat.le_trans hc.1 hroom.2.2.1) (Nat.le_trans hc.2 hroom.2.2.2) hKn.2.1 hH fun H1 kC hkC e1 z1 o1 => ?_
  obtain ⟨h1, h2⟩ := fs_grow (H1 := H1) hR hS 1 (y.2.2 + N) (by omega) (fun q hq => o1 q (by omega)) (fun j hj => by
    obtain rfl : j = 0 := by omega
    show va_at (g_D g) fs_cl (g_sz g + y.1, fs_cell g y.1 (M (y.1 : Int))) H1
    rw [fs_cell_o ho]
    exact ⟨_, hk.1, (u_born ty hts hk.2.1 hKn hkC e1 hk.2.2.1).to (fun j hj => by rw [fs_vpV (by rw [hk.2.2.2.2.1]; exact hj), hm j hj, hk.2.2.2.2.2.1])⟩)
  have hlt := fs_klt ho
  have h3 := kk p e R s m args below meth c C0 hPX H1 locs lc hl h1 h2 hI hlo (hok.c (by show fs_in32 (y.1 : Int); unfold fs_in32; omega))
  rw [List.map_cons, fs_e_nat ho] at h3
  exact h3
theorem g_newarray {aty : ArrayType} {ty n : Nat} (hz : z.1 = 1) (hd : decode md.2.1 pc = .ok (.newarray aty, 2)) (hw : Cond.arrayClass (newarray.typeOf aty) ∈ fs_B) (hty : (ty, aty) ∈ [(0, ArrayType.int), (1, ArrayType.boolean), (2, ArrayType.long)]) (ho : fs_kinds[y.1]? = some (.inr (ty, n))) (hn : n ≤ 10000) (hm : ∀ j : Nat, M (y.1 : Int) j = 0)
    (hc : y.2.1 + 1 ≤ z.2.2.2.1 ∧ y.2.2 + n ≤ z.2.2.2.2) (kk : fs_Ag g md d z (y.1 + 1, y.2.1 + 1, y.2.2 + n) (pc + 2) ls (fs_r (y.1 : Int) :: st) M PX Q) : fs_Ag g md d z y pc ls (fs_i n :: st) M PX Q := by
  intro p e R s m args below meth c C0 hPX H locs lc hl hR hS hI hlo hok
  refine fs_hsz (fun hsz => ?_)
  have hts : ∀ w ∈ fs_B, w.before args s = true := C0.2.2.2.2.2.2.1
  have hSt := C0.2.2.2.2.2.2.2.1
  have hroom := C0.2.2.2.2.2.2.2.2.1
  have hH : H.size = g_sz g + y.1 := fs_sz1 hSt hS hR hsz hz
  have hi : fs_in32 (n : Int) := hok.h
  have hN : (Int32.ofInt (n : Int)).toNatClampNeg = n := by rw [fs_vcl hi (by omega)]; omega
  have hlt := fs_klt ho
  have hb : n * componentBytes (newarray.typeOf aty) ≤ 536870912 := by
    have h8 : componentBytes (newarray.typeOf aty) ≤ 8 := by cases aty <;> decide
    exact Nat.le_trans (Nat.mul_le_mul hn h8) (by decide)
  have ht8 : ty < 8 := by
    simp only [List.mem_cons, List.not_mem_nil, or_false, Prod.mk.injEq] at hty
    omega
  have hRA := (hSt.1.2 ty _ (fs_tys_get ht8)).2
  refine va_newaK C0.1 C0.2.1 (hts _ hw) rfl hd rfl (fun q => by have := (fs_lt32 hi fs_in0).mp q; omega) hN hb (Nat.le_trans hc.1 hroom.2.2.1) (Nat.le_trans hc.2 hroom.2.2.2) hH fun H1 cA e1 z1 o1 hAr hNm => ?_
  obtain ⟨h1, h2⟩ := fs_grow (H1 := H1) hR hS 1 (y.2.2 + n) (by omega) (fun q hq => o1 q (by omega)) (fun j hj => by
    obtain rfl : j = 0 := by omega
    show va_at (g_D g) fs_cl (g_sz g + y.1, fs_cell g y.1 (M (y.1 : Int))) H1
    rw [fs_cell_a ho]
    show H1[g_sz g + y.1]? = some (vp_cell (g_tc g ty) (n, fs_pay g ty (M (y.1 : Int))))
    rw [e1]
    simp only [List.mem_cons, List.not_mem_nil, or_false, Prod.mk.injEq] at hty
    rcases hty with ⟨rfl, rfl⟩ | ⟨rfl, rfl⟩ | ⟨rfl, rfl⟩
    · have hcA : cA = g_tc g 0 := Option.some.inj (hNm.symm.trans hRA)
      rw [← hcA]
      show some (arrV cA n (fun _ => .int 0)) = some (arrV cA n (fun j => .int (Int32.ofInt (M (y.1 : Int) j))))
      congr 2
      funext j
      rw [hm j]
      rfl
    · have hcA : cA = g_tc g 1 := Option.some.inj (hNm.symm.trans hRA)
      rw [← hcA]
      show some (arrV cA n (fun _ => .int 0)) = some (arrV cA n (fun j => .int (Int32.ofInt (M (y.1 : Int) j))))
      congr 2
      funext j
      rw [hm j]
      rfl
    · have hcA : cA = g_tc g 2 := Option.some.inj (hNm.symm.trans hRA)
      rw [← hcA]
      show some (arrV cA n (fun _ => .long 0)) = some (arrV cA n (fun j => .long (Int64.ofInt (M (y.1 : Int) j))))
      congr 2
      funext j
      rw [hm j]
      rfl)
  have h3 := kk p e R s m args below meth c C0 hPX H1 locs lc hl h1 h2 hI hlo (hok.t.c (by show fs_in32 (y.1 : Int); unfold fs_in32; omega))
  rw [List.map_cons, fs_e_nat ho] at h3
  exact h3
theorem fs_AO.word {C : String} {A : Array Value} {s : State} (h : fs_AO C (.object C) s) : (Cond.arrayOver (.object C)).before A s = true := by
  obtain ⟨comp, c, k, h1, h2, h3, h4, h5⟩ := h
  unfold Cond.before Cond.holds
  simp only [Cond.value]
  rw [h1, Option.bind_some]
  refine (congrArg (fun o : Option Nat => (o.bind (fun c => (s.vm.classes[c]?).map fun (k : Class) => match k.kind with | .array _ ty => decide (ty = FieldType.object C) && decide (s.vm.findClass ("[" ++ (FieldType.object C).toString) = some c) | _ => false) == some true)) h2).trans ?_
  simp [h3, h4, h5]
theorem g_anewarray {idx ty n : Nat} {C : String} (hz : z.1 = 1) (hd : decode md.2.1 pc = .ok (.anewarray idx, 3)) (hw : Cond.classLink md.1.cls idx C ∈ fs_B) (hty : (ty, C) ∈ [(5, "FirstSill$Goer"), (6, "FirstSill$Plan"), (7, "FirstSill$Token")]) (ho : fs_kinds[y.1]? = some (.inr (ty, n))) (hn : n ≤ 10000) (hm : ∀ j : Nat, M (y.1 : Int) j = -1)
    (hc : y.2.1 + 1 ≤ z.2.2.2.1 ∧ y.2.2 + n ≤ z.2.2.2.2) (kk : fs_Ag g md d z (y.1 + 1, y.2.1 + 1, y.2.2 + n) (pc + 3) ls (fs_r (y.1 : Int) :: st) M PX Q) : fs_Ag g md d z y pc ls (fs_i n :: st) M PX Q := by
  intro p e R s m args below meth c C0 hPX H locs lc hl hR hS hI hlo hok
  refine fs_hsz (fun hsz => ?_)
  have hts : ∀ w ∈ fs_B, w.before args s = true := C0.2.2.2.2.2.2.1
  have hSt := C0.2.2.2.2.2.2.2.1
  have hroom := C0.2.2.2.2.2.2.2.2.1
  have hH : H.size = g_sz g + y.1 := fs_sz1 hSt hS hR hsz hz
  have hi : fs_in32 (n : Int) := hok.h
  have hN : (Int32.ofInt (n : Int)).toNatClampNeg = n := by rw [fs_vcl hi (by omega)]; omega
  have hlt := fs_klt ho
  have hAO : (Cond.arrayOver (.object C)).before args s = true := by
    refine fs_AO.word (hSt.2.2.2.2.2.2.1 (C, .object C) ?_)
    simp only [List.mem_cons, List.not_mem_nil, or_false, Prod.mk.injEq] at hty
    rcases hty with ⟨-, rfl⟩ | ⟨-, rfl⟩ | ⟨-, rfl⟩ <;> simp [fs_aos]
  have hRA : s.vm.findClass ("[" ++ (FieldType.object C).toString) = some (g_tc g ty) := by
    simp only [List.mem_cons, List.not_mem_nil, or_false, Prod.mk.injEq] at hty
    rcases hty with ⟨rfl, rfl⟩ | ⟨rfl, rfl⟩ | ⟨rfl, rfl⟩
    · obtain ⟨kA, comp, h1, h2, h3, h4⟩ := (hSt.1.2 5 _ (fs_tys_get (by decide))).2
      exact h4
    · obtain ⟨kA, comp, h1, h2, h3, h4⟩ := (hSt.1.2 6 _ (fs_tys_get (by decide))).2
      exact h4
    · obtain ⟨kA, comp, h1, h2, h3, h4⟩ := (hSt.1.2 7 _ (fs_tys_get (by decide))).2
      exact h4
  refine W.anew C0.1 C0.2.1 C0.2.2.2.2.2.1 (hts _ hw) hAO rfl hd rfl (fun q => by have := (fs_lt32 hi fs_in0).mp q; omega) (by rw [hN]; omega) (Nat.le_trans hc.1 hroom.2.2.1) (by rw [hN]; exact Nat.le_trans hc.2 hroom.2.2.2) fun cA kA comp f1 f2 f3 f4 => ?_
  obtain rfl : cA = g_tc g ty := Option.some.inj (f1.symm.trans hRA)
  rw [hN]
  generalize hH1 : H.push ({ cls := g_tc g ty, slots := Array.replicate n .null, vm := .none } : Cell) = H1
  have z1 : H1.size = H.size + 1 := by rw [← hH1, Array.size_push]
  have e1 : H1[H.size]? = some (arrV (g_tc g ty) n (fun _ => .null)) := by rw [← hH1, Array.getElem?_push_size, ← arrV_new]
  have o1 : ∀ q : Nat, q < H.size → H1[q]? = H[q]? := fun q hq => by rw [← hH1, Array.getElem?_push, if_neg (Nat.ne_of_lt hq)]
  obtain ⟨h1, h2⟩ := fs_grow (H1 := H1) hR hS 1 (y.2.2 + n) z1 o1 (fun j hj => by
    obtain rfl : j = 0 := by omega
    show va_at (g_D g) fs_cl (g_sz g + y.1, fs_cell g y.1 (M (y.1 : Int))) H1
    rw [fs_cell_a ho]
    show H1[g_sz g + y.1]? = some (vp_cell (g_tc g ty) (n, fs_pay g ty (M (y.1 : Int))))
    rw [← hH, e1]
    have hp : fs_pay g ty (M (y.1 : Int)) = .inr (.inr (.inr (.inr (fun j : Nat => fs_ro g (M (y.1 : Int) j))))) := by
      simp only [List.mem_cons, List.not_mem_nil, or_false, Prod.mk.injEq] at hty
      rcases hty with ⟨rfl, -⟩ | ⟨rfl, -⟩ | ⟨rfl, -⟩ <;> rfl
    rw [hp, vp_cell_q]
    congr 2
    funext j
    rw [hm j]
    rfl)
  have h3 := kk p e R s m args below meth c C0 hPX H1 locs lc hl h1 h2 hI hlo (hok.t.c (by show fs_in32 (y.1 : Int); unfold fs_in32; omega))
  rw [List.map_cons, fs_e_nat ho, ← hH] at h3
  exact h3
/-- an array of n arrays of k places: the rows lie behind it -/
theorem g_multi {idx ty ti n k : Nat} {t : FieldType} (hz : z.1 = 1) (hd : decode md.2.1 pc = .ok (.multianewarray idx 2, 4)) (hw : Cond.classLink md.1.cls idx ("[" ++ (FieldType.array t).toString) ∈ fs_B ∧ Cond.arrayClass t ∈ fs_B) (hty : (ty, ti, t) ∈ [(3, 0, FieldType.int), (4, 2, FieldType.long)]) (ho : fs_kinds[y.1]? = some (.inr (ty, n))) (hi : ∀ j, j < n → fs_kinds[y.1 + 1 + j]? = some (.inr (ti, k))) (hn : n ≤ 10000 ∧ k ≤ 10000)
    (hm : ∀ j : Nat, j < n → M (y.1 : Int) j = ((y.1 + 1 + j : Nat) : Int) ∧ ∀ i : Nat, M ((y.1 + 1 + j : Nat) : Int) i = 0) (hc : y.2.1 + (1 + n) ≤ z.2.2.2.1 ∧ y.2.2 + (n + n * k) ≤ z.2.2.2.2) (kk : fs_Ag g md d z (y.1 + (1 + n), y.2.1 + (1 + n), y.2.2 + (n + n * k)) (pc + 4) ls (fs_r (y.1 : Int) :: st) M PX Q) : fs_Ag g md d z y pc ls (fs_i k :: fs_i n :: st) M PX Q := by
  intro p e R s m args below meth c C0 hPX H locs lc hl hR hS hI hlo hok
  refine fs_hsz (fun hsz => ?_)
  have hts : ∀ w ∈ fs_B, w.before args s = true := C0.2.2.2.2.2.2.1
  have hSt := C0.2.2.2.2.2.2.2.1
  have hroom := C0.2.2.2.2.2.2.2.2.1
  have hH : H.size = g_sz g + y.1 := fs_sz1 hSt hS hR hsz hz
  have hik : fs_in32 (k : Int) := hok.h
  have hin : fs_in32 (n : Int) := hok.t.h
  have hN : (Int32.ofInt (n : Int)).toNatClampNeg = n := by rw [fs_vcl hin (by omega)]; omega
  have hK : (Int32.ofInt (k : Int)).toNatClampNeg = k := by rw [fs_vcl hik (by omega)]; omega
  have hlt := fs_klt ho
  simp only [List.mem_cons, List.not_mem_nil, or_false, Prod.mk.injEq] at hty
  have hAO : fs_AO (FieldType.array t).toString (.array t) s := by
    rcases hty with ⟨-, -, rfl⟩ | ⟨-, -, rfl⟩
    · exact hSt.2.2.2.2.2.2.1 ("[I", .array .int) (by simp [fs_aos])
    · exact hSt.2.2.2.2.2.2.1 ("[J", .array .long) (by simp [fs_aos])
  obtain ⟨comp, cA, kA, f1, f2, f3, f4, f5⟩ := hAO
  have hRA : s.vm.findClass ("[" ++ (FieldType.array t).toString) = some (g_tc g ty) := by
    rcases hty with ⟨rfl, -, rfl⟩ | ⟨rfl, -, rfl⟩
    · exact (hSt.1.2 3 _ (fs_tys_get (by decide))).2
    · exact (hSt.1.2 4 _ (fs_tys_get (by decide))).2
  have hRI : s.vm.findClass (FieldType.array t).toString = some (g_tc g ti) := by
    rcases hty with ⟨-, rfl, rfl⟩ | ⟨-, rfl, rfl⟩
    · exact (hSt.1.2 0 _ (fs_tys_get (by decide))).2
    · exact (hSt.1.2 2 _ (fs_tys_get (by decide))).2
  obtain rfl : cA = g_tc g ty := Option.some.inj (f5.symm.trans hRA)
  obtain rfl : comp = g_tc g ti := Option.some.inj (f1.symm.trans hRI)
  have hcb : componentBytes t ≤ 8 := by
    rcases hty with ⟨-, -, rfl⟩ | ⟨-, -, rfl⟩ <;> decide
  refine fs_Wmulti (cA := g_tc g ty) (comp := g_tc g ti) C0.1 C0.2.1 C0.2.2.2.2.2.1 (hts _ hw.1) f1 f3 f4 f5 (hts _ hw.2) hd (fun q => by have := (fs_lt32 hin fs_in0).mp q; omega) (fun q => by have := (fs_lt32 hik fs_in0).mp q; omega) (by rw [hN]; omega) (by rw [hK]; exact Nat.le_trans (Nat.mul_le_mul hn.2 hcb) (by decide)) (by rw [hK]; omega) ?_ ?_ (by rw [hN]; exact Nat.le_trans hc.1 hroom.2.2.1) (by rw [hN, hK]; exact Nat.le_trans hc.2 hroom.2.2.2) (fun H1 z1 e1 o1 i1 => ?_)
  · rcases hty with ⟨-, -, rfl⟩ | ⟨-, -, rfl⟩ <;> rfl
  · rcases hty with ⟨-, -, rfl⟩ | ⟨-, -, rfl⟩ <;> rfl
  rw [hN] at z1 e1 i1 ⊢
  rw [hK] at i1 ⊢
  obtain ⟨h1, h2⟩ := fs_grow (H1 := H1) hR hS (1 + n) (y.2.2 + (n + n * k)) z1 o1 (fun j hj => by
    cases j with
    | zero =>
      show va_at (g_D g) fs_cl (g_sz g + y.1, fs_cell g y.1 (M (y.1 : Int))) H1
      rw [fs_cell_a ho]
      show H1[g_sz g + y.1]? = some (vp_cell (g_tc g ty) (n, fs_pay g ty (M (y.1 : Int))))
      rw [← hH, e1]
      have hp : fs_pay g ty (M (y.1 : Int)) = .inr (.inr (.inr (.inr (fun j : Nat => fs_ro g (M (y.1 : Int) j))))) := by
        rcases hty with ⟨rfl, -, -⟩ | ⟨rfl, -, -⟩ <;> rfl
      rw [hp, vp_cell_q]
      unfold fs_oc
      refine congrArg some (fs_arrV_ext fun j hj => ?_)
      rw [if_pos hj, (hm j hj).1]
      show _ = fs_e g (fs_r ((y.1 + 1 + j : Nat) : Int))
      rw [fs_e_nat (hi j hj), hH]
      have ea : g_sz g + y.1 + 1 + j = g_sz g + (y.1 + 1 + j) := by omega
      rw [ea]
    | succ i =>
      have hji : i < n := by omega
      have ea : y.1 + (i + 1) = y.1 + 1 + i := by omega
      rw [ea, fs_cell_a (hi i hji)]
      show H1[g_sz g + (y.1 + 1 + i)]? = some (vp_cell (g_tc g ti) (k, fs_pay g ti (M ((y.1 + 1 + i : Nat) : Int))))
      rw [show g_sz g + (y.1 + 1 + i) = H.size + 1 + i by omega, i1 i hji]
      have hmz := (hm i hji).2
      rcases hty with ⟨-, rfl, rfl⟩ | ⟨-, rfl, rfl⟩
      · show some (arrV (g_tc g 0) k (fun _ => .int 0)) = some (arrV (g_tc g 0) k (fun j => .int (Int32.ofInt (M ((y.1 + 1 + i : Nat) : Int) j))))
        congr 2
        funext j
        rw [hmz j]
        rfl
      · show some (arrV (g_tc g 2) k (fun _ => .long 0)) = some (arrV (g_tc g 2) k (fun j => .long (Int64.ofInt (M ((y.1 + 1 + i : Nat) : Int) j))))
        congr 2
        funext j
        rw [hmz j]
        rfl)
  have h2b : va_S (fs_A g) s.heap H1 (locs ++ (List.range n).map fun j => ⟨H.size, j⟩) := ⟨h2.1, h2.2.1, fun q hq => by
    rcases List.mem_append.mp hq with h9 | h9
    · exact h2.2.2 q h9
    · obtain ⟨j, -, rfl⟩ := List.mem_map.mp h9
      show g_sz g ≤ H.size
      omega⟩
  have h3 := kk p e R s m args below meth c C0 hPX H1 _ lc hl h1 h2b hI hlo (hok.t.t.c (by show fs_in32 (y.1 : Int); unfold fs_in32; omega))
  rw [List.map_cons, fs_e_nat ho, ← hH] at h3
  exact h3
end FIRST
