-- ===== printed by program (wip/whole/gen9o.py): stores of the first phase; Object's constructor; final fields =====
section STO
variable {g : fs_G} {md : fs_D} {d : Nat} {z : fs_Z} {y : Nat × Nat × Nat} {pc : Nat} {ls : List (Nat × fs_V)} {st : List fs_V} {M : fs_M} {PX : Code → Prop} {Q : List Frame → Array Value → State → State → Prop}
theorem g_put1 {idx ci k : Nat} {o x : Int} {v : fs_V} (hd : decode md.2.1 pc = .ok (.putfield idx, 3)) (hf : fs_FL md.1.cls idx ci k false) (ho : fs_isO ci o) (hn : o.toNat < y.1) (hv : fs_fv (fs_ft ci k) x = v) (hz : z.1 = 1) (hnar : narrow (fs_ft ci k) (fs_f g (fs_ft ci k) x) = fs_f g (fs_ft ci k) x ∧ fits (fs_ft ci k) (fs_f g (fs_ft ci k) x) = true)
    (kk : fs_Ag g md d z y (pc + 3) ls st (fs_st M o k x) PX Q) : fs_Ag g md d z y pc ls (v :: fs_r o :: st) M PX Q := by
  intro p e R s m args below meth c C hPX H locs lc hl hR hS hI hlo hok
  obtain ⟨cn, T, N, ty, hk, hkN, hfin, hT, hlink⟩ := hf
  subst hv
  rw [List.map_cons, List.map_cons, fs_e_fv, fs_e_in ho.1 ho.2]
  have hts : ∀ w ∈ fs_B, w.before args s = true := C.2.2.2.2.2.2.1
  have hkN' : k < fs_nf ci := by rw [hk.2.2.2.2.1]; exact hkN
  have hlen : k < (fs_row g ci (M o)).length := by simp [fs_row]; exact hkN'
  have hpd : parseFieldDescriptor (T k).2.2.1 = some (fs_ft ci k) := by rw [hk.2.2.2.2.2.1]; exact hk.2.2.1 k hkN
  have hok1 : fs_ok (fs_fv (fs_ft ci k) x) := hok.h
  have hI2 : fs_XI z.1 (fs_st M o k x) := by
    refine ⟨fs_rngS hI.1 ?_, fun q => by rw [hz] at q; cases q⟩
    have h3 : fs_isL o k = decide (ci = 3 ∧ (k : Int) = 6) := by
      unfold fs_isL
      rw [if_neg (by have := ho.1; omega), ho.2]
    have h2 := hk.2.2.2.2.2.2 k hkN
    rw [h3]
    by_cases a : ci = 3 ∧ k = 6
    · rw [if_pos (by simp; exact ⟨a.1, by omega⟩)]
      rw [h2.mpr a] at hok1
      exact hok1
    · rw [if_neg (by simp; intro q1 q2; exact a ⟨q1, by omega⟩)]
      have hne : ¬ fs_ft ci k = .long := fun q => a (h2.mp q)
      revert hok1 hne
      cases fs_ft ci k <;> intro hok1 hne <;> first | exact hok1 | exact absurd rfl hne
  have hset : (fs_W g y.1 M).set o.toNat (g_sz g + o.toNat, .inr (ci, (fs_row g ci (M o)).set k (fs_f g (fs_ft ci k) x))) = fs_W g y.1 (fs_st M o k x) := by
    rw [fs_W_set ho.1, fs_cellO ho, fs_row_set]
  have fin : ∀ (H1 : Heap) (locs1 : List Loc), va_P (g_D g) fs_cl ((fs_W g y.1 M).set o.toNat (g_sz g + o.toNat, .inr (ci, (fs_row g ci (M o)).set k (fs_f g (fs_ft ci k) x)))) H1 → va_D (fs_A g) ((fs_W g y.1 M).set o.toNat (g_sz g + o.toNat, .inr (ci, (fs_row g ci (M o)).set k (fs_f g (fs_ft ci k) x)))) → va_S (fs_A g) s.heap H1 locs1 → W p (g_l g) e R s m args below meth c H1 locs1 y.2.1 y.2.2 (Q below args s) (F0 m (pc + 3) lc (st.map (fs_e g))) := by
    intro H1 locs1 hP1 _ hS1
    rw [hset] at hP1
    exact kk p e R s m args below meth c C hPX H1 locs1 lc hl ⟨hP1, hR.2⟩ hS1 hI2 hlo hok.t.t
  rcases hlink with hw | ⟨host, hw⟩
  · exact va_put (Ts := fs_B) C.1 C.2.1 hts hk.2.1 ty hk.2.2.1 hk.2.2.2.1 C.2.2.2.2.2.1 C.2.2.2.2.2.2.2.1.1 hR.1 fs_W_D hS o.toNat (fs_W_O ho hn) hk.1 k hkN (hts _ hw) (fun _ q => q) hfin hpd hnar.1 hnar.2 hlen hd fin
  · exact va_putN (Ts := fs_B) C.1 C.2.1 hts hk.2.1 ty hk.2.2.1 hk.2.2.2.1 C.2.2.2.2.2.1 C.2.2.2.2.2.2.2.1.1 hR.1 fs_W_D hS o.toNat (fs_W_O ho hn) hk.1 k hkN (va_Nw.use rfl (C.2.2.2.2.2.2.2.1.2.1 _ hw)) (fun _ q => q) hfin hpd hnar.1 hnar.2 hlen hd fin
/-- a final field by its own class's entry -/
def fs_FLF (own : String) (idx ci k : Nat) : Prop := ∃ (C : String) (T : u_T) (N : Nat) (ty : Nat → FieldType), fs_KC ci C T N ty ∧ k < N ∧ (T k).2.2.2 = true ∧ (T k).1 = C ∧ Cond.fieldLink own idx (T k).1 (T k).2.1 (T k).2.2.1 ∈ fs_B
theorem g_putF {idx ci k : Nat} {o x : Int} {v : fs_V} (hd : decode md.2.1 pc = .ok (.putfield idx, 3)) (hf : fs_FLF md.1.cls idx ci k) (ho : fs_isO ci o) (hn : o.toNat < y.1) (hv : fs_fv (fs_ft ci k) x = v) (hz : z.1 = 1) (hin : md.1.name = "<init>") (hcn : (fs_cl[ci]?).map (fun q => q.1) = some md.1.cls) (hnar : narrow (fs_ft ci k) (fs_f g (fs_ft ci k) x) = fs_f g (fs_ft ci k) x ∧ fits (fs_ft ci k) (fs_f g (fs_ft ci k) x) = true)
    (kk : fs_Ag g md d z y (pc + 3) ls st (fs_st M o k x) PX Q) : fs_Ag g md d z y pc ls (v :: fs_r o :: st) M PX Q := by
  intro p e R s m args below meth c C hPX H locs lc hl hR hS hI hlo hok
  obtain ⟨cn, T, N, ty, hk, hkN, hfin, hT, hlink⟩ := hf
  subst hv
  rw [List.map_cons, List.map_cons, fs_e_fv, fs_e_in ho.1 ho.2]
  have hts : ∀ w ∈ fs_B, w.before args s = true := C.2.2.2.2.2.2.1
  have hkN' : k < fs_nf ci := by rw [hk.2.2.2.2.1]; exact hkN
  have hlen : k < (fs_row g ci (M o)).length := by simp [fs_row]; exact hkN'
  have hpd : parseFieldDescriptor (T k).2.2.1 = some (fs_ft ci k) := by rw [hk.2.2.2.2.2.1]; exact hk.2.2.1 k hkN
  have hok1 : fs_ok (fs_fv (fs_ft ci k) x) := hok.h
  have hI2 : fs_XI z.1 (fs_st M o k x) := by
    refine ⟨fs_rngS hI.1 ?_, fun q => by rw [hz] at q; cases q⟩
    have h3 : fs_isL o k = decide (ci = 3 ∧ (k : Int) = 6) := by
      unfold fs_isL
      rw [if_neg (by have := ho.1; omega), ho.2]
    have h2 := hk.2.2.2.2.2.2 k hkN
    rw [h3]
    by_cases a : ci = 3 ∧ k = 6
    · rw [if_pos (by simp; exact ⟨a.1, by omega⟩)]
      rw [h2.mpr a] at hok1
      exact hok1
    · rw [if_neg (by simp; intro q1 q2; exact a ⟨q1, by omega⟩)]
      have hne : ¬ fs_ft ci k = .long := fun q => a (h2.mp q)
      revert hok1 hne
      cases fs_ft ci k <;> intro hok1 hne <;> first | exact hok1 | exact absurd rfl hne
  have hset : (fs_W g y.1 M).set o.toNat (g_sz g + o.toNat, .inr (ci, (fs_row g ci (M o)).set k (fs_f g (fs_ft ci k) x))) = fs_W g y.1 (fs_st M o k x) := by
    rw [fs_W_set ho.1, fs_cellO ho, fs_row_set]
  have fin : ∀ (H1 : Heap) (locs1 : List Loc), va_P (g_D g) fs_cl ((fs_W g y.1 M).set o.toNat (g_sz g + o.toNat, .inr (ci, (fs_row g ci (M o)).set k (fs_f g (fs_ft ci k) x)))) H1 → va_D (fs_A g) ((fs_W g y.1 M).set o.toNat (g_sz g + o.toNat, .inr (ci, (fs_row g ci (M o)).set k (fs_f g (fs_ft ci k) x)))) → va_S (fs_A g) s.heap H1 locs1 → W p (g_l g) e R s m args below meth c H1 locs1 y.2.1 y.2.2 (Q below args s) (F0 m (pc + 3) lc (st.map (fs_e g))) := by
    intro H1 locs1 hP1 _ hS1
    rw [hset] at hP1
    exact kk p e R s m args below meth c C hPX H1 locs1 lc hl ⟨hP1, hR.2⟩ hS1 hI2 hlo hok.t.t
  have hdecl : (T k).1 = md.1.cls := by
    rw [hk.1] at hcn
    exact hT.trans (Option.some.inj hcn)
  exact va_putF (Ts := fs_B) C.1 C.2.1 hts hk.2.1 ty hk.2.2.1 hk.2.2.2.1 C.2.2.2.2.2.1 C.2.2.2.2.2.2.2.1.1 hR.1 fs_W_D hS o.toNat (fs_W_O ho hn) hk.1 k hkN (hts _ hlink) (fun _ q => q) hfin (C.2.2.2.2.2.2.2.2.2.trans hin) hdecl hpd hnar.1 hnar.2 hlen hd fin
/-- an object into an array of references -/
theorem g_aast {ty ci n : Nat} {o i v : Int} (hz : z.1 = 1) (hd : decode md.2.1 pc = .ok (.aastore, 1)) (ho : fs_isA ty n o) (hn : o.toNat < y.1) (hv : fs_isO ci v) (hvn : v.toNat < y.1) (hty : (ty, ci) ∈ [(5, 2), (6, 6)]) (h0 : 0 ≤ i) (h1 : i < n) (kk : fs_Ag g md d z y (pc + 1) ls st (fs_st M o i v) PX Q) : fs_Ag g md d z y pc ls (fs_r v :: fs_i i :: fs_r o :: st) M PX Q := by
  intro p e R s m args below meth c C hPX H locs lc hl hR hS hI hlo hok
  have hSt := C.2.2.2.2.2.2.2.1
  have hi : fs_in32 i := hok.t.h
  rw [List.map_cons, List.map_cons, List.map_cons, fs_e_in ho.1 ho.2, fs_e_in hv.1 hv.2]
  simp only [List.mem_cons, List.not_mem_nil, or_false, Prod.mk.injEq] at hty
  have hlt : v.toNat < 271 := fs_n2 hv.2
  have go : ∀ (q : vw_C), fs_cl[ci]? = some q → fs_at ty = .object q.1 → ty < 8 → (∀ r : Int → Int, fs_pay g ty r = .inr (.inr (.inr (.inr (fun j : Nat => fs_ro g (r j)))))) → ¬ ty = 2 →
      W p (g_l g) e R s m args below meth c H locs y.2.1 y.2.2 (Q below args s) (F0 m pc lc (.ref (g_sz g + v.toNat) :: fs_e g (fs_i i) :: .ref (g_sz g + o.toNat) :: st.map (fs_e g))) := by
    intro q hq hat ht8 hpay h2
    have hA := fs_W_A (g := g) (M := M) ho hn
    rw [hpay] at hA
    refine va_astq (r := q) (f := fun j : Nat => fs_ro g (M o j)) C.1 C.2.1 hSt.1 hR.1 fs_W_D hS o.toNat ty v.toNat ci hA (by rw [← hat]; exact fs_tys_get ht8) (fs_W_O hv hvn) hq (fs_vin hi h0 h1) hd (fun H1 locs1 hP1 _ hS1 => ?_)
    have hpe : (.inr (.inr (.inr (.inr (va_up (fun j : Nat => fs_ro g (M o j)) (Int32.ofInt i).toNatClampNeg (some (g_sz g + v.toNat)))))) : (Nat → Int32) ⊕ (Nat → Int64) ⊕ (Nat → UInt32) ⊕ (Nat → UInt64) ⊕ (Nat → Option Nat)) = fs_pay g ty (fs_st M o i v o) := by
      rw [hpay]
      congr 4
      funext j
      rw [fs_vcl hi h0]
      unfold va_up fs_st
      rw [if_pos rfl]
      have hv0 := hv.1
      by_cases a : j = i.toNat
      · rw [if_pos a, if_pos (by omega)]
        unfold fs_ro fs_ad
        rw [if_neg (by omega), if_pos (by omega)]
      · rw [if_neg a, if_neg (by omega)]
    rw [hpe, ← fs_cellA ho, ← fs_W_set ho.1] at hP1
    refine kk p e R s m args below meth c C hPX H1 locs1 lc hl ⟨hP1, hR.2⟩ hS1 ⟨fs_rngS hI.1 ?_, fun q => by rw [hz] at q; cases q⟩ hlo hok.t.t.t
    have h3 : fs_isL o i = false := by
      unfold fs_isL
      rw [if_neg (by have := ho.1; omega), ho.2]
      simp [h2]
    rw [h3]
    show fs_in32 v
    have hv0 := hv.1
    unfold fs_in32
    omega
  rcases hty with ⟨rfl, rfl⟩ | ⟨rfl, rfl⟩
  · exact go _ rfl rfl (by decide) (fun r => rfl) (by decide)
  · exact go _ rfl rfl (by decide) (fun r => rfl) (by decide)
/-- Object's constructor -/
theorem g_objinit {idx : Nat} {o : Int} {q : Nat ⊕ (Nat × Nat)} (hd : decode md.2.1 pc = .ok (.invokespecial idx, 3)) (hl : Cond.methodLink md.1.cls idx Lib.objectInit ∈ fs_B ∧ Cond.instanceMethod Lib.objectInit ∈ fs_B ∧ Cond.code Lib.objectInit ⟨#[0xb1]⟩ 1 none ∈ fs_B) (ho : 0 ≤ o ∧ fs_kinds[o.toNat]? = some q) (hst : st = []) (hdd : 1 ≤ d) (kk : fs_Ag g md d z y (pc + 3) ls st M PX Q) : fs_Ag g md d z y pc ls (fs_r o :: st) M PX Q := by
  intro p e R s m args below meth c C hPX H locs lc hl2 hR hS hI hlo hok
  have hts : ∀ w ∈ fs_B, w.before args s = true := C.2.2.2.2.2.2.1
  have hroom := C.2.2.2.2.2.2.2.2.1
  rw [List.map_cons, fs_e_in ho.1 ho.2]
  have h1 := hroom.1
  have h2 := hroom.2.1
  refine W.objInit C.1 C.2.1 C.2.2.2.2.2.1 (hts _ hl.1) (hts _ hl.2.1) (hts _ hl.2.2) rfl (hl2.1.trans C.2.2.1.symm) rfl hd (by omega) ?_ (kk p e R s m args below meth c C hPX H locs lc hl2 hR hS hI hlo hok.t)
  subst hst
  have h3 : 2 * (F0 m pc lc [Value.ref (g_sz g + o.toNat)]).monitorRoom + 0 ≤ 8 := lv_room (st := []) (by decide)
  refine Nat.le_trans (Nat.add_le_add_right h3 12) ?_
  omega
end STO
theorem flF_Fs_12 : fs_FLF "FirstSill" 12 10 0 := ⟨_, _, _, _, fs_kc10, by decide, rfl, rfl, fs_inB 619 (by decide +kernel) rfl⟩
theorem flF_Fs_16 : fs_FLF "FirstSill" 16 10 1 := ⟨_, _, _, _, fs_kc10, by decide, rfl, rfl, fs_inB 620 (by decide +kernel) rfl⟩
theorem flF_Fs_24 : fs_FLF "FirstSill" 24 10 2 := ⟨_, _, _, _, fs_kc10, by decide, rfl, rfl, fs_inB 621 (by decide +kernel) rfl⟩
theorem flF_Fs_31 : fs_FLF "FirstSill" 31 10 3 := ⟨_, _, _, _, fs_kc10, by decide, rfl, rfl, fs_inB 622 (by decide +kernel) rfl⟩
theorem flF_Fs_35 : fs_FLF "FirstSill" 35 10 4 := ⟨_, _, _, _, fs_kc10, by decide, rfl, rfl, fs_inB 623 (by decide +kernel) rfl⟩
theorem flF_Fs_43 : fs_FLF "FirstSill" 43 10 5 := ⟨_, _, _, _, fs_kc10, by decide, rfl, rfl, fs_inB 624 (by decide +kernel) rfl⟩
theorem flF_Fs_50 : fs_FLF "FirstSill" 50 10 6 := ⟨_, _, _, _, fs_kc10, by decide, rfl, rfl, fs_inB 625 (by decide +kernel) rfl⟩
theorem flF_Fs_54 : fs_FLF "FirstSill" 54 10 7 := ⟨_, _, _, _, fs_kc10, by decide, rfl, rfl, fs_inB 626 (by decide +kernel) rfl⟩
theorem flF_Fs_62 : fs_FLF "FirstSill" 62 10 8 := ⟨_, _, _, _, fs_kc10, by decide, rfl, rfl, fs_inB 627 (by decide +kernel) rfl⟩
theorem flF_Fs_69 : fs_FLF "FirstSill" 69 10 9 := ⟨_, _, _, _, fs_kc10, by decide, rfl, rfl, fs_inB 628 (by decide +kernel) rfl⟩
theorem flF_Fs_76 : fs_FLF "FirstSill" 76 10 10 := ⟨_, _, _, _, fs_kc10, by decide, rfl, rfl, fs_inB 629 (by decide +kernel) rfl⟩
theorem flF_Fs_80 : fs_FLF "FirstSill" 80 10 11 := ⟨_, _, _, _, fs_kc10, by decide, rfl, rfl, fs_inB 630 (by decide +kernel) rfl⟩
theorem flF_Fs_83 : fs_FLF "FirstSill" 83 10 12 := ⟨_, _, _, _, fs_kc10, by decide, rfl, rfl, fs_inB 631 (by decide +kernel) rfl⟩
theorem flF_Book_9 : fs_FLF "FirstSill$Book" 9 0 0 := ⟨_, _, _, _, fs_kc0, by decide, rfl, rfl, fs_inB 522 (by decide +kernel) rfl⟩
theorem flF_Book_15 : fs_FLF "FirstSill$Book" 15 0 1 := ⟨_, _, _, _, fs_kc0, by decide, rfl, rfl, fs_inB 523 (by decide +kernel) rfl⟩
theorem flF_Book_24 : fs_FLF "FirstSill$Book" 24 0 3 := ⟨_, _, _, _, fs_kc0, by decide, rfl, rfl, fs_inB 526 (by decide +kernel) rfl⟩
theorem flF_Book_29 : fs_FLF "FirstSill$Book" 29 0 4 := ⟨_, _, _, _, fs_kc0, by decide, rfl, rfl, fs_inB 528 (by decide +kernel) rfl⟩
theorem flF_Book_44 : fs_FLF "FirstSill$Book" 44 0 10 := ⟨_, _, _, _, fs_kc0, by decide, rfl, rfl, fs_inB 535 (by decide +kernel) rfl⟩
theorem flF_Book_48 : fs_FLF "FirstSill$Book" 48 0 11 := ⟨_, _, _, _, fs_kc0, by decide, rfl, rfl, fs_inB 536 (by decide +kernel) rfl⟩
theorem flF_Book_51 : fs_FLF "FirstSill$Book" 51 0 12 := ⟨_, _, _, _, fs_kc0, by decide, rfl, rfl, fs_inB 537 (by decide +kernel) rfl⟩
theorem flF_Book_54 : fs_FLF "FirstSill$Book" 54 0 13 := ⟨_, _, _, _, fs_kc0, by decide, rfl, rfl, fs_inB 538 (by decide +kernel) rfl⟩
theorem flF_Book_57 : fs_FLF "FirstSill$Book" 57 0 14 := ⟨_, _, _, _, fs_kc0, by decide, rfl, rfl, fs_inB 539 (by decide +kernel) rfl⟩
theorem flF_Book_60 : fs_FLF "FirstSill$Book" 60 0 6 := ⟨_, _, _, _, fs_kc0, by decide, rfl, rfl, fs_inB 531 (by decide +kernel) rfl⟩
theorem flF_Book_64 : fs_FLF "FirstSill$Book" 64 0 7 := ⟨_, _, _, _, fs_kc0, by decide, rfl, rfl, fs_inB 532 (by decide +kernel) rfl⟩
theorem flF_Course_17 : fs_FLF "FirstSill$Course" 17 1 3 := ⟨_, _, _, _, fs_kc1, by decide, rfl, rfl, fs_inB 459 (by decide +kernel) rfl⟩
theorem flF_Course_23 : fs_FLF "FirstSill$Course" 23 1 4 := ⟨_, _, _, _, fs_kc1, by decide, rfl, rfl, fs_inB 461 (by decide +kernel) rfl⟩
theorem flF_Course_26 : fs_FLF "FirstSill$Course" 26 1 5 := ⟨_, _, _, _, fs_kc1, by decide, rfl, rfl, fs_inB 463 (by decide +kernel) rfl⟩
theorem flF_Course_30 : fs_FLF "FirstSill$Course" 30 1 6 := ⟨_, _, _, _, fs_kc1, by decide, rfl, rfl, fs_inB 467 (by decide +kernel) rfl⟩
theorem flF_Course_36 : fs_FLF "FirstSill$Course" 36 1 0 := ⟨_, _, _, _, fs_kc1, by decide, rfl, rfl, fs_inB 455 (by decide +kernel) rfl⟩
theorem flF_Laws_11 : fs_FLF "FirstSill$Laws" 11 3 0 := ⟨_, _, _, _, fs_kc3, by decide, rfl, rfl, fs_inB 197 (by decide +kernel) rfl⟩
theorem flF_Laws_17 : fs_FLF "FirstSill$Laws" 17 3 1 := ⟨_, _, _, _, fs_kc3, by decide, rfl, rfl, fs_inB 198 (by decide +kernel) rfl⟩
theorem flF_Laws_25 : fs_FLF "FirstSill$Laws" 25 3 3 := ⟨_, _, _, _, fs_kc3, by decide, rfl, rfl, fs_inB 202 (by decide +kernel) rfl⟩
theorem flF_Laws_28 : fs_FLF "FirstSill$Laws" 28 3 4 := ⟨_, _, _, _, fs_kc3, by decide, rfl, rfl, fs_inB 204 (by decide +kernel) rfl⟩
theorem flF_Laws_31 : fs_FLF "FirstSill$Laws" 31 3 5 := ⟨_, _, _, _, fs_kc3, by decide, rfl, rfl, fs_inB 206 (by decide +kernel) rfl⟩
theorem flF_Night_9 : fs_FLF "FirstSill$Night" 9 4 0 := ⟨_, _, _, _, fs_kc4, by decide, rfl, rfl, fs_inB 495 (by decide +kernel) rfl⟩
theorem flF_Night_15 : fs_FLF "FirstSill$Night" 15 4 1 := ⟨_, _, _, _, fs_kc4, by decide, rfl, rfl, fs_inB 497 (by decide +kernel) rfl⟩
theorem flF_Past_11 : fs_FLF "FirstSill$Past" 11 5 0 := ⟨_, _, _, _, fs_kc5, by decide, rfl, rfl, fs_inB 608 (by decide +kernel) rfl⟩
theorem flF_Plan_11 : fs_FLF "FirstSill$Plan" 11 6 0 := ⟨_, _, _, _, fs_kc6, by decide, rfl, rfl, fs_inB 384 (by decide +kernel) rfl⟩
theorem flF_Plan_16 : fs_FLF "FirstSill$Plan" 16 6 1 := ⟨_, _, _, _, fs_kc6, by decide, rfl, rfl, fs_inB 387 (by decide +kernel) rfl⟩
theorem flF_Reader_9 : fs_FLF "FirstSill$Reader" 9 7 0 := ⟨_, _, _, _, fs_kc7, by decide, rfl, rfl, fs_inB 336 (by decide +kernel) rfl⟩
theorem flF_Reader_52 : fs_FLF "FirstSill$Reader" 52 7 4 := ⟨_, _, _, _, fs_kc7, by decide, rfl, rfl, fs_inB 343 (by decide +kernel) rfl⟩
theorem flF_Script_9 : fs_FLF "FirstSill$Script" 9 8 0 := ⟨_, _, _, _, fs_kc8, by decide, rfl, rfl, fs_inB 246 (by decide +kernel) rfl⟩
theorem flF_Script_15 : fs_FLF "FirstSill$Script" 15 8 1 := ⟨_, _, _, _, fs_kc8, by decide, rfl, rfl, fs_inB 249 (by decide +kernel) rfl⟩
theorem flF_Script_18 : fs_FLF "FirstSill$Script" 18 8 2 := ⟨_, _, _, _, fs_kc8, by decide, rfl, rfl, fs_inB 253 (by decide +kernel) rfl⟩
theorem flF_Script_21 : fs_FLF "FirstSill$Script" 21 8 3 := ⟨_, _, _, _, fs_kc8, by decide, rfl, rfl, fs_inB 259 (by decide +kernel) rfl⟩
theorem flF_Script_31 : fs_FLF "FirstSill$Script" 31 8 6 := ⟨_, _, _, _, fs_kc8, by decide, rfl, rfl, fs_inB 273 (by decide +kernel) rfl⟩
theorem flF_Script_34 : fs_FLF "FirstSill$Script" 34 8 7 := ⟨_, _, _, _, fs_kc8, by decide, rfl, rfl, fs_inB 276 (by decide +kernel) rfl⟩
theorem flF_Script_37 : fs_FLF "FirstSill$Script" 37 8 8 := ⟨_, _, _, _, fs_kc8, by decide, rfl, rfl, fs_inB 281 (by decide +kernel) rfl⟩
theorem flF_Script_53 : fs_FLF "FirstSill$Script" 53 8 12 := ⟨_, _, _, _, fs_kc8, by decide, rfl, rfl, fs_inB 296 (by decide +kernel) rfl⟩
theorem flF_Tracks_9 : fs_FLF "FirstSill$Tracks" 9 9 0 := ⟨_, _, _, _, fs_kc9, by decide, rfl, rfl, fs_inB 578 (by decide +kernel) rfl⟩
theorem flF_Tracks_15 : fs_FLF "FirstSill$Tracks" 15 9 1 := ⟨_, _, _, _, fs_kc9, by decide, rfl, rfl, fs_inB 579 (by decide +kernel) rfl⟩
theorem flF_Tracks_18 : fs_FLF "FirstSill$Tracks" 18 9 2 := ⟨_, _, _, _, fs_kc9, by decide, rfl, rfl, fs_inB 580 (by decide +kernel) rfl⟩
theorem flF_Tracks_21 : fs_FLF "FirstSill$Tracks" 21 9 3 := ⟨_, _, _, _, fs_kc9, by decide, rfl, rfl, fs_inB 581 (by decide +kernel) rfl⟩
theorem flF_Mo_7 : fs_FLF "FirstSillModel" 7 11 1 := ⟨_, _, _, _, fs_kc11, by decide, rfl, rfl, fs_inB 1411 (by decide +kernel) rfl⟩
theorem flF_Mo_13 : fs_FLF "FirstSillModel" 13 11 3 := ⟨_, _, _, _, fs_kc11, by decide, rfl, rfl, fs_inB 1413 (by decide +kernel) rfl⟩
theorem flF_Mo_16 : fs_FLF "FirstSillModel" 16 11 4 := ⟨_, _, _, _, fs_kc11, by decide, rfl, rfl, fs_inB 1414 (by decide +kernel) rfl⟩
theorem flF_Mo_19 : fs_FLF "FirstSillModel" 19 11 5 := ⟨_, _, _, _, fs_kc11, by decide, rfl, rfl, fs_inB 1415 (by decide +kernel) rfl⟩
theorem flF_Mo_22 : fs_FLF "FirstSillModel" 22 11 6 := ⟨_, _, _, _, fs_kc11, by decide, rfl, rfl, fs_inB 1416 (by decide +kernel) rfl⟩
theorem flF_Mo_25 : fs_FLF "FirstSillModel" 25 11 7 := ⟨_, _, _, _, fs_kc11, by decide, rfl, rfl, fs_inB 1417 (by decide +kernel) rfl⟩
theorem flF_Mo_28 : fs_FLF "FirstSillModel" 28 11 8 := ⟨_, _, _, _, fs_kc11, by decide, rfl, rfl, fs_inB 1418 (by decide +kernel) rfl⟩
theorem flF_Mo_32 : fs_FLF "FirstSillModel" 32 11 9 := ⟨_, _, _, _, fs_kc11, by decide, rfl, rfl, fs_inB 1419 (by decide +kernel) rfl⟩
theorem flF_Mo_35 : fs_FLF "FirstSillModel" 35 11 10 := ⟨_, _, _, _, fs_kc11, by decide, rfl, rfl, fs_inB 1420 (by decide +kernel) rfl⟩
theorem flF_Mo_38 : fs_FLF "FirstSillModel" 38 11 11 := ⟨_, _, _, _, fs_kc11, by decide, rfl, rfl, fs_inB 1421 (by decide +kernel) rfl⟩
theorem flF_Mo_41 : fs_FLF "FirstSillModel" 41 11 12 := ⟨_, _, _, _, fs_kc11, by decide, rfl, rfl, fs_inB 1422 (by decide +kernel) rfl⟩
theorem flF_Mo_44 : fs_FLF "FirstSillModel" 44 11 13 := ⟨_, _, _, _, fs_kc11, by decide, rfl, rfl, fs_inB 1423 (by decide +kernel) rfl⟩
theorem flF_Mo_47 : fs_FLF "FirstSillModel" 47 11 14 := ⟨_, _, _, _, fs_kc11, by decide, rfl, rfl, fs_inB 1424 (by decide +kernel) rfl⟩
theorem flF_Mo_50 : fs_FLF "FirstSillModel" 50 11 15 := ⟨_, _, _, _, fs_kc11, by decide, rfl, rfl, fs_inB 1425 (by decide +kernel) rfl⟩
theorem flF_Mo_57 : fs_FLF "FirstSillModel" 57 11 29 := ⟨_, _, _, _, fs_kc11, by decide, rfl, rfl, fs_inB 1439 (by decide +kernel) rfl⟩
theorem flF_Mo_60 : fs_FLF "FirstSillModel" 60 11 30 := ⟨_, _, _, _, fs_kc11, by decide, rfl, rfl, fs_inB 1440 (by decide +kernel) rfl⟩
theorem flF_Mo_63 : fs_FLF "FirstSillModel" 63 11 31 := ⟨_, _, _, _, fs_kc11, by decide, rfl, rfl, fs_inB 1441 (by decide +kernel) rfl⟩
theorem flF_Mo_66 : fs_FLF "FirstSillModel" 66 11 32 := ⟨_, _, _, _, fs_kc11, by decide, rfl, rfl, fs_inB 1442 (by decide +kernel) rfl⟩
theorem flF_Mo_69 : fs_FLF "FirstSillModel" 69 11 33 := ⟨_, _, _, _, fs_kc11, by decide, rfl, rfl, fs_inB 1443 (by decide +kernel) rfl⟩
theorem flF_Mo_72 : fs_FLF "FirstSillModel" 72 11 34 := ⟨_, _, _, _, fs_kc11, by decide, rfl, rfl, fs_inB 1444 (by decide +kernel) rfl⟩
theorem flF_Mo_75 : fs_FLF "FirstSillModel" 75 11 35 := ⟨_, _, _, _, fs_kc11, by decide, rfl, rfl, fs_inB 1445 (by decide +kernel) rfl⟩
theorem flF_Mo_78 : fs_FLF "FirstSillModel" 78 11 36 := ⟨_, _, _, _, fs_kc11, by decide, rfl, rfl, fs_inB 1446 (by decide +kernel) rfl⟩
theorem flF_Mo_81 : fs_FLF "FirstSillModel" 81 11 39 := ⟨_, _, _, _, fs_kc11, by decide, rfl, rfl, fs_inB 1449 (by decide +kernel) rfl⟩
theorem flF_Mo_85 : fs_FLF "FirstSillModel" 85 11 40 := ⟨_, _, _, _, fs_kc11, by decide, rfl, rfl, fs_inB 1450 (by decide +kernel) rfl⟩
theorem flF_Mo_97 : fs_FLF "FirstSillModel" 97 11 45 := ⟨_, _, _, _, fs_kc11, by decide, rfl, rfl, fs_inB 1455 (by decide +kernel) rfl⟩
theorem flF_Mo_100 : fs_FLF "FirstSillModel" 100 11 46 := ⟨_, _, _, _, fs_kc11, by decide, rfl, rfl, fs_inB 1456 (by decide +kernel) rfl⟩
theorem flF_Mo_103 : fs_FLF "FirstSillModel" 103 11 48 := ⟨_, _, _, _, fs_kc11, by decide, rfl, rfl, fs_inB 1458 (by decide +kernel) rfl⟩
theorem flF_Mo_106 : fs_FLF "FirstSillModel" 106 11 49 := ⟨_, _, _, _, fs_kc11, by decide, rfl, rfl, fs_inB 1459 (by decide +kernel) rfl⟩
theorem flF_Mo_109 : fs_FLF "FirstSillModel" 109 11 50 := ⟨_, _, _, _, fs_kc11, by decide, rfl, rfl, fs_inB 1460 (by decide +kernel) rfl⟩
theorem flF_Mo_112 : fs_FLF "FirstSillModel" 112 11 51 := ⟨_, _, _, _, fs_kc11, by decide, rfl, rfl, fs_inB 1461 (by decide +kernel) rfl⟩
theorem flF_Mo_115 : fs_FLF "FirstSillModel" 115 11 52 := ⟨_, _, _, _, fs_kc11, by decide, rfl, rfl, fs_inB 1462 (by decide +kernel) rfl⟩
theorem flF_Mo_118 : fs_FLF "FirstSillModel" 118 11 53 := ⟨_, _, _, _, fs_kc11, by decide, rfl, rfl, fs_inB 1463 (by decide +kernel) rfl⟩
theorem flF_Mo_121 : fs_FLF "FirstSillModel" 121 11 54 := ⟨_, _, _, _, fs_kc11, by decide, rfl, rfl, fs_inB 1464 (by decide +kernel) rfl⟩
theorem flF_Mo_124 : fs_FLF "FirstSillModel" 124 11 55 := ⟨_, _, _, _, fs_kc11, by decide, rfl, rfl, fs_inB 1465 (by decide +kernel) rfl⟩
theorem flF_Mo_127 : fs_FLF "FirstSillModel" 127 11 57 := ⟨_, _, _, _, fs_kc11, by decide, rfl, rfl, fs_inB 1467 (by decide +kernel) rfl⟩
theorem flF_Mo_130 : fs_FLF "FirstSillModel" 130 11 58 := ⟨_, _, _, _, fs_kc11, by decide, rfl, rfl, fs_inB 1468 (by decide +kernel) rfl⟩
theorem flF_Mo_133 : fs_FLF "FirstSillModel" 133 11 64 := ⟨_, _, _, _, fs_kc11, by decide, rfl, rfl, fs_inB 1474 (by decide +kernel) rfl⟩
theorem flF_Mo_136 : fs_FLF "FirstSillModel" 136 11 65 := ⟨_, _, _, _, fs_kc11, by decide, rfl, rfl, fs_inB 1475 (by decide +kernel) rfl⟩
theorem flF_Mo_142 : fs_FLF "FirstSillModel" 142 11 70 := ⟨_, _, _, _, fs_kc11, by decide, rfl, rfl, fs_inB 1480 (by decide +kernel) rfl⟩
theorem flF_Mo_145 : fs_FLF "FirstSillModel" 145 11 71 := ⟨_, _, _, _, fs_kc11, by decide, rfl, rfl, fs_inB 1481 (by decide +kernel) rfl⟩
theorem flF_Mo_148 : fs_FLF "FirstSillModel" 148 11 72 := ⟨_, _, _, _, fs_kc11, by decide, rfl, rfl, fs_inB 1482 (by decide +kernel) rfl⟩
theorem flF_Mo_151 : fs_FLF "FirstSillModel" 151 11 73 := ⟨_, _, _, _, fs_kc11, by decide, rfl, rfl, fs_inB 1483 (by decide +kernel) rfl⟩
theorem flF_Mo_154 : fs_FLF "FirstSillModel" 154 11 76 := ⟨_, _, _, _, fs_kc11, by decide, rfl, rfl, fs_inB 1486 (by decide +kernel) rfl⟩
