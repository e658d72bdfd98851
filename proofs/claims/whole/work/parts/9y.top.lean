-- ===== by hand: what the tables say at the law's entry: classes, arrays' classes, nests =====
section TOP
variable {s : State} {args : Array Value}
theorem fs_Kn_all (hts : ∀ w ∈ fs_B, w.before args s = true) : ∃ (dC : Nat → ClassId) (dI : Nat → Nat → Nat), ∀ (c : Nat) (q : vw_C), fs_cl[c]? = some q → u_Kn s q.1 q.2.1 q.2.2 (dC c) (dI c) := by
  have one : ∀ {ci : Nat} {C : String} {T : u_T} {N : Nat} {ty : Nat → FieldType}, fs_KC ci C T N ty → Cond.instantiable C N ∈ fs_B → ∃ (cC : ClassId) (iS : Nat → Nat), ∀ q, fs_cl[ci]? = some q → u_Kn s q.1 q.2.1 q.2.2 cC iS := by
    intro ci C T N ty hk hw
    obtain ⟨cC, iS, h⟩ := u_known (n := N) hts hk.2.1 (hts _ hw)
    refine ⟨cC, iS, fun q hq => ?_⟩
    cases hk.1.symm.trans hq
    exact h
  have all : ∀ c : Nat, ∃ w : ClassId × (Nat → Nat), ∀ q, fs_cl[c]? = some q → u_Kn s q.1 q.2.1 q.2.2 w.1 w.2 := by
    intro c
    have go : (∃ (cC : ClassId) (iS : Nat → Nat), ∀ q, fs_cl[c]? = some q → u_Kn s q.1 q.2.1 q.2.2 cC iS) → ∃ w : ClassId × (Nat → Nat), ∀ q, fs_cl[c]? = some q → u_Kn s q.1 q.2.1 q.2.2 w.1 w.2 := fun ⟨a, b, h⟩ => ⟨(a, b), h⟩
    match c with
    | 0 => exact go (one fs_kc0 (fs_inB 512 (by decide +kernel) rfl))
    | 1 => exact go (one fs_kc1 (fs_inB 406 (by decide +kernel) rfl))
    | 2 => exact go (one fs_kc2 (fs_inB 414 (by decide +kernel) rfl))
    | 3 => exact go (one fs_kc3 (fs_inB 190 (by decide +kernel) rfl))
    | 4 => exact go (one fs_kc4 (fs_inB 490 (by decide +kernel) rfl))
    | 5 => exact go (one fs_kc5 (fs_inB 600 (by decide +kernel) rfl))
    | 6 => exact go (one fs_kc6 (fs_inB 377 (by decide +kernel) rfl))
    | 7 => exact go (one fs_kc7 (fs_inB 329 (by decide +kernel) rfl))
    | 8 => exact go (one fs_kc8 (fs_inB 184 (by decide +kernel) rfl))
    | 9 => exact go (one fs_kc9 (fs_inB 573 (by decide +kernel) rfl))
    | 10 => exact go (one fs_kc10 (fs_inB 176 (by decide +kernel) rfl))
    | 11 => exact go (one fs_kc11 (fs_inB 1401 (by decide +kernel) rfl))
    | c + 12 => exact ⟨(0, fun _ => 0), fun q hq => by cases hq⟩
  obtain ⟨f, hf⟩ := Classical.skolem.mp all
  exact ⟨fun c => (f c).1, fun c => (f c).2, fun c q hq => hf c q hq⟩
theorem fs_AOof {n : String} {ty : FieldType} (h : (Cond.arrayOver ty).before args s = true) (hty : (n, ty) ∈ fs_aos) : fs_AO n ty s := by
  simp only [fs_aos, List.mem_cons, List.not_mem_nil, or_false, Prod.mk.injEq] at hty
  rcases hty with ⟨rfl, rfl⟩ | ⟨rfl, rfl⟩ | ⟨rfl, rfl⟩ | ⟨rfl, rfl⟩ | ⟨rfl, rfl⟩
  · exact Cond.arrayOver_spec h
  · exact Cond.arrayOver_spec h
  · exact Cond.arrayOver_spec h
  · exact arrayOverA_spec h
  · exact arrayOverA_spec h
theorem fs_ty_all (hts : ∀ w ∈ fs_B, w.before args s = true) (hao : ∀ q ∈ fs_aos, fs_AO q.1 q.2 s) : ∃ tc : Nat → ClassId, ∀ k, k < 8 → ArrOfT s (tc k) (fs_at k) ∧ va_RA s (tc k) (fs_at k) := by
  have prim : ∀ {ty : FieldType}, (Cond.arrayClass ty).before args s = true → (∀ cA, va_RA s cA ty = (s.vm.findClass ("[" ++ ty.toString) = some cA)) → ∃ cA : ClassId, ArrOfT s cA ty ∧ va_RA s cA ty := by
    intro ty h hra
    obtain ⟨cA, kA, comp, h1, h2, h3⟩ := Cond.arrayClass_spec h
    exact ⟨cA, fun n z => ⟨fun k h => (by cases h), kA, h2, comp, h3⟩, by rw [hra]; exact h1⟩
  have obj : ∀ {C : String}, fs_AO C (.object C) s → ∃ cA : ClassId, ArrOfT s cA (.object C) ∧ va_RA s cA (.object C) := by
    intro C h
    obtain ⟨comp, c, k, h1, h2, h3, h4, h5⟩ := h
    exact ⟨c, fun n z => ⟨fun k h => (by cases h), k, h3, comp, h4⟩, k, comp, h3, h4, h1, h5⟩
  have arr : ∀ {n : String} {t : FieldType}, fs_AO n (.array t) s → ∃ cA : ClassId, ArrOfT s cA (.array t) ∧ va_RA s cA (.array t) := by
    intro n t h
    obtain ⟨comp, c, k, h1, h2, h3, h4, h5⟩ := h
    exact ⟨c, fun n z => ⟨fun k h => (by cases h), k, h3, comp, h4⟩, h5⟩
  have all : ∀ k : Nat, ∃ cA : ClassId, k < 8 → ArrOfT s cA (fs_at k) ∧ va_RA s cA (fs_at k) := by
    intro k
    match k with
    | 0 => obtain ⟨c, h⟩ := prim (hts _ aw_int) (fun _ => rfl); exact ⟨c, fun _ => h⟩
    | 1 => obtain ⟨c, h⟩ := prim (hts _ aw_boolean) (fun _ => rfl); exact ⟨c, fun _ => h⟩
    | 2 => obtain ⟨c, h⟩ := prim (hts _ aw_long) (fun _ => rfl); exact ⟨c, fun _ => h⟩
    | 3 => obtain ⟨c, h⟩ := arr (hao ("[I", .array .int) (by simp [fs_aos])); exact ⟨c, fun _ => h⟩
    | 4 => obtain ⟨c, h⟩ := arr (hao ("[J", .array .long) (by simp [fs_aos])); exact ⟨c, fun _ => h⟩
    | 5 => obtain ⟨c, h⟩ := obj (hao ("FirstSill$Goer", .object "FirstSill$Goer") (by simp [fs_aos])); exact ⟨c, fun _ => h⟩
    | 6 => obtain ⟨c, h⟩ := obj (hao ("FirstSill$Plan", .object "FirstSill$Plan") (by simp [fs_aos])); exact ⟨c, fun _ => h⟩
    | 7 => obtain ⟨c, h⟩ := obj (hao ("FirstSill$Token", .object "FirstSill$Token") (by simp [fs_aos])); exact ⟨c, fun _ => h⟩
    | k + 8 => exact ⟨0, fun h => by omega⟩
  exact Classical.skolem.mp all
theorem fs_K_of {g : fs_G} (hD : ∀ (c : Nat) (q : vw_C), fs_cl[c]? = some q → u_Kn s q.1 q.2.1 q.2.2 ((g_D g).1 c) ((g_D g).2 c)) (hT : ∀ k, k < 8 → ArrOfT s (g_tc g k) (fs_at k) ∧ va_RA s (g_tc g k) (fs_at k)) : va_K (g_D g) fs_cl (fs_tys g) s := by
  refine ⟨hD, fun k q hk => ?_⟩
  have hlt : k < 8 := by
    have h1 := (List.getElem?_eq_some_iff.mp hk).1
    simpa [fs_tys] using h1
  obtain rfl : q = (g_tc g k, fs_at k) := Option.some.inj (hk.symm.trans (fs_tys_get hlt))
  exact hT k hlt
theorem fs_NW_of (hts : ∀ w ∈ lw_tbl, w.before args s = true) : ∀ w ∈ fs_NW, va_Nw w s := by
  intro w hw
  obtain ⟨h1, h2⟩ := List.mem_filter.mp hw
  have h3 := hts w (List.mem_append.mpr (Or.inr h1))
  cases w with
  | fieldLinkNest a i b n d h => exact va_tabs rfl rfl h3
  | methodLinkNest a i x h => exact va_tabs rfl rfl h3
  | _ => cases h2
theorem fs_EW_of (hts : ∀ w ∈ lw_tbl, w.before args s = true) : ∀ w ∈ fs_EW, va_Nw w s := by
  have hin : fs_EW.all (fun w => decide (w ∈ lw_tbl) && w.onTables) = true := by decide +kernel
  intro w hw
  have h1 := List.all_eq_true.mp hin w hw
  simp only [Bool.and_eq_true, decide_eq_true_eq] at h1
  exact va_tabs h1.2 rfl (hts w h1.1)
theorem fs_aos_of (hts : ∀ w ∈ lw_tbl, w.before args s = true) : ∀ q ∈ fs_aos, fs_AO q.1 q.2 s := by
  have hin : fs_aos.all (fun q => decide (Cond.arrayOver q.2 ∈ lw_tbl)) = true := by decide +kernel
  intro q hq
  have h1 := List.all_eq_true.mp hin q hq
  exact fs_AOof (hts _ (of_decide_eq_true h1)) hq
theorem fs_B_of (hts : ∀ w ∈ lw_tbl, w.before args s = true) : ∀ w ∈ fs_B, w.before args s = true := fun w hw => hts w (List.mem_filter.mp hw).1
end TOP
