-- ===== by hand: methods that throw; look of the class =====
theorem fs_EW_use {w : Cond} (hw : w ∈ fs_EW) {A : Array Value} {s : State} (h : va_Nw w s) : w.before A s = true := by
  simp only [fs_EW, List.mem_cons, List.not_mem_nil, or_false] at hw
  rcases hw with e | e | e | e | e <;> (rw [e] at h ⊢; exact va_Nw.use rfl h)
/-- thrown, over the memory M -/
def fs_XC (g : fs_G) (n : Nat) (M : fs_M) (KX : String → Prop) : String → State → State → Prop := fun E st t => KX E ∧ fs_R g 2 n M t.heap ∧ va_F (fs_A g) st t
abbrev fs_PX : Code → Prop := fun c => ∀ x ∈ c.exceptionTable.toList, False
section THR
variable {g : fs_G} {md : fs_D} {d : Nat} {z : fs_Z} {y : Nat × Nat × Nat} {pc : Nat} {ls : List (Nat × fs_V)} {st : List fs_V} {M : fs_M} {PX : Code → Prop} {Q : List Frame → Array Value → State → State → Prop}
theorem g_throw {cls text Y : String} {r : List String} {ik is ic ix : Nat} {rx : ByteArray} {q : Int} {KX : String → Prop} {Qc : Array Value → State → Outcome → State → Prop}
    (x0 : decode rx 0 = .ok (.aload_n 0, 1)) (x1 : decode rx 1 = .ok (.aload_n 1, 1)) (x2 : decode rx 2 = .ok (.invokespecial ix, 3)) (x5 : decode rx 5 = .ok (.return_, 1)) (hcls : Bundle.fit cls = true) (hY : Bundle.fit Y = true) (hr : ∀ n ∈ r, Bundle.fit n = true)
    (hw : Cond.classLink md.1.cls ik cls ∈ fs_B ∧ Cond.initialized cls ∈ fs_B) (hall : ((fs_thX md.1.cls ic cls ix rx Y r).filter vx_no).all (fun w => (decide (w ∈ lw_tbl) && goodWord w) || decide (w ∈ fs_EW)) = true) (hot : (Cond.classLink md.1.cls ik cls :: Cond.initialized cls :: (fs_thX md.1.cls ic cls ix rx Y r).filter vx_no).all vx_ot = true)
    (hstr : ∀ (s : State) (H : Heap), fs_ST g s H → vk_R md.1.cls is text (g_so g q) s)
    (d0 : decode md.2.1 pc = .ok (.new ik, 3)) (d3 : decode md.2.1 (pc + 3) = .ok (.dup, 1)) (d4 : decode md.2.1 (pc + 4) = .ok (.ldc is, 2)) (d6 : decode md.2.1 (pc + 6) = .ok (.invokespecial ic, 3)) (d9 : decode md.2.1 (pc + 9) = .ok (.athrow, 1))
    (hrl : r.length = 1) (hdd : 10 ≤ d) (hcs : y.2.1 + 1 ≤ z.2.2.2.1 ∧ y.2.2 + 6 ≤ z.2.2.2.2) (hK : KX cls) : fs_Ag g md d z y pc ls [] M fs_PX (fun below args s => vx_MQ below Qc (fs_XC g y.1 M KX) args s z.2.2.2.1 z.2.2.2.2 (fs_A g)) := by
  intro p e R s m args below meth c C hPX H locs lc hl hR hS hI hlo hok
  have hts : ∀ w ∈ fs_B, w.before args s = true := C.2.2.2.2.2.2.1
  have hSt := C.2.2.2.2.2.2.2.1
  have hroom := C.2.2.2.2.2.2.2.2.1
  have hEX := hSt.2.2.2.2
  obtain ⟨-, -, -, -, -, -, -, -, -, -, t11, t12, -⟩ := hSt.2.2.1
  have h1 := hroom.1
  have h2 := hroom.2.1
  refine fs_throwX (A := fs_A g) (sa := g_so g q) (r := r) (text := text) C.1 C.2.1 hEX.2.1 x0 x1 x2 x5 C.2.2.2.2.2.1 hcls hY hr (hts _ hw.1) (hts _ hw.2) (hstr s _ hSt.2.2.1) (fun w hw9 => ?_) (fun w hw9 => List.all_eq_true.mp hot w hw9) t11 t12 hS (hl.1.trans C.2.2.1.symm) d0 d3 d4 d6 d9 (fun x hx => (hPX x hx).elim) (by omega) ?_ (Nat.le_trans hcs.1 hroom.2.2.1) (Nat.le_trans hcs.2 hroom.2.2.2) C.2.2.2.2.1 (fun t ha hsz hkeep => ?_) hS.2.2 hcs.1 hcs.2
  · have h3 := List.all_eq_true.mp hall w hw9
    simp only [Bool.or_eq_true, Bool.and_eq_true, decide_eq_true_eq] at h3
    rcases h3 with h3 | h3
    · exact hts w (List.mem_filter.mpr ⟨h3.1, h3.2⟩)
    · exact fs_EW_use h3 (hEX.2.2.2 w h3)
  · simp only [List.map_nil, List.sum_nil]
    omega
  · exact ⟨hK, ⟨hR.1.kept (fun k x hk => hkeep x.1 (hR.1 k x hk).lt), fun h => by cases h⟩, Nat.le_trans hS.1 hsz, fun x h3 h4 => (hkeep x (Nat.lt_of_lt_of_le h3 hS.1)).trans (hS.2.1 x h3 h4)⟩
theorem g_enterX {args : List fs_V} {Qc : Array Value → State → Outcome → State → Prop} {XC : String → State → State → Prop} (hpl : plainName md.1.cls = true) (hsz : fs_wt args ≤ md.2.2.1) (hls : fs_args 0 args = ls) (hI : fs_XI z.1 M) (hok : fs_oks args)
    (h : fs_Ag g md d z (z.2.1, 0, 0) 0 ls [] M fs_PX (fun below args s => vx_MQ below Qc XC args s z.2.2.2.1 z.2.2.2.2 (fs_A g))) :
    vx_Met (g_l g) md.1 (fs_ws md) (fs_rm d z.2.2.2.1 z.2.2.2.2) (va_Pc (args.map (fs_e g)) (fun U => fs_R g z.1 z.2.1 M U.heap ∧ fs_S g U)) Qc XC z.2.2.2.1 z.2.2.2.2 (fs_A g) := by
  refine vx_ofW (cc := md.2.1) (maxL := md.2.2.1) (ret := md.2.2.2) hpl rfl ?_
  intro p e s m a below meth c s₁ B hml ht hv
  obtain ⟨rfl, ⟨hP, hph⟩, hSt⟩ := hv
  have hts : ∀ w ∈ fs_ws md, w.before (args.map (fs_e g)).toArray s = true := atoms_spec B.pre
  have hown : s.vm.findClass md.1.cls = some m.cls := findClass_of_methodNamed B.named
  rw [lg_entry_eq]
  have hl := lv_entry (n := md.2.2.1) (args.map (fs_e g)) (by rw [fs_lgl]; exact hsz)
  rw [fs_args_lv, hls] at hl
  exact h p e _ s m _ below meth c ⟨B.exec, B.bytes, hml, B.returns, B.notSynchronized, hown, fun w hw => hts w (List.mem_cons_of_mem _ hw), hSt, ⟨Nat.le_refl _, Nat.le_refl _, Nat.le_refl _, Nat.le_refl _⟩, (name_of_methodNamed B.named B.method).1⟩ ht s.heap [] _ hl ⟨hP, hph⟩ va_S.rf hI (fun q hq => hok _ (by rw [← hls] at hq; exact fs_args_mem args 0 q hq)) (fun v hv => by cases hv)
end THR
abbrev fs_Z3 : fs_Z := (2, 271, 271, 1, 6)
def fs_lkv (M : fs_M) (a b : Int) : Int := if b = 0 then M 3 a else if b = 1 then M 4 a else if b = 2 then M 5 a else if b = 3 then fs_bit (M 1 4) a else if b = 4 then fs_bit (M 31 2) a else fs_bit (M 31 3) a
/-- which exception: 1 no such house, 2 no such what -/
def fs_lkx (M : fs_M) (a b : Int) : Int := if 0 ≤ a ∧ a < M 1 5 then (if 0 ≤ b ∧ b ≤ 5 then 0 else 2) else 1
theorem fs_lkw1 : ((fs_thX "FirstSill" 158 "java/lang/IndexOutOfBoundsException" 7 prog_21_method_2_code "java/lang/RuntimeException" ["java/lang/Exception"]).filter vx_no).all (fun w => (decide (w ∈ lw_tbl) && goodWord w) || decide (w ∈ fs_EW)) = true := by decide +kernel
theorem fs_lkw2 : ((fs_thX "FirstSill" 187 "java/util/NoSuchElementException" 13 prog_32_method_4_code "java/lang/RuntimeException" ["java/lang/Exception"]).filter vx_no).all (fun w => (decide (w ∈ lw_tbl) && goodWord w) || decide (w ∈ fs_EW)) = true := by decide +kernel
theorem fs_lkt1 : (Cond.classLink "FirstSill" 154 "java/lang/IndexOutOfBoundsException" :: Cond.initialized "java/lang/IndexOutOfBoundsException" :: (fs_thX "FirstSill" 158 "java/lang/IndexOutOfBoundsException" 7 prog_21_method_2_code "java/lang/RuntimeException" ["java/lang/Exception"]).filter vx_no).all vx_ot = true := by decide +kernel
theorem fs_lkt2 : (Cond.classLink "FirstSill" 183 "java/util/NoSuchElementException" :: Cond.initialized "java/util/NoSuchElementException" :: (fs_thX "FirstSill" 187 "java/util/NoSuchElementException" 13 prog_32_method_4_code "java/lang/RuntimeException" ["java/lang/Exception"]).filter vx_no).all vx_ot = true := by decide +kernel
section LOOKC
variable {g : fs_G}
set_option maxHeartbeats 4000000 in
theorem sp_lookX {M : fs_M} {K : fs_K} {a b : Int} {KX : String → Prop} (hI : fs_XI 2 M) (ha : fs_in32 a) (hb : fs_in32 b) (h5 : M 1 5 ≤ 6) (h1 : fs_lkx M a b = 1 → KX "java/lang/IndexOutOfBoundsException") (h2 : fs_lkx M a b = 2 → KX "java/util/NoSuchElementException") (h3 : fs_lkx M a b = 0 → K (some (fs_i (fs_lkv M a b))) M) :
    vx_Met (g_l g) m_Fs_look.1 (fs_ws m_Fs_look) (fs_rm 20 1 6) (va_Pc ([fs_r 0, fs_i a, fs_i b].map (fs_e g)) (fun U => fs_R g 2 271 M U.heap ∧ fs_S g U)) (fs_Q g 2 271 K) (fs_XC g 271 M KX) 1 6 (fs_A g) := by
  have hoks : fs_oks [fs_r 0, fs_i a, fs_i b] := fun v hv => by
    simp only [List.mem_cons, List.not_mem_nil, or_false] at hv
    rcases hv with rfl | rfl | rfl
    · show fs_in32 0
      unfold fs_in32; omega
    · exact ha
    · exact hb
  refine g_enterX (z := fs_Z3) (ls := [(0, fs_r 0), (1, fs_i a), (2, fs_i b)]) pn_Fs (Nat.le_of_ble_eq_true rfl) rfl hI hoks ?_
  refine g_aload_n (j := 0) d_Fs_look_0 rfl rfl ?_
  refine g_getptr (q := 1) d_Fs_look_1 fl_Fs_12 rfl io_0 (by decide) rfl rfl rfl ?_
  refine g_iload_n (j := 1) d_Fs_look_4 rfl rfl ?_
  refine g_virtual (dc := 1) (zc := fs_Z2) (ci := 8) (T := fs_T8) (N := 13) [fs_i a] [] d_Fs_look_5 ml_Fs_150 k_Script_hasHouse v_Script_hasHouse rfl io_1 (by decide) rfl ⟨by decide, rfl, rfl, by decide, by decide, fun q => by cases q⟩ rfl (Nat.le_of_ble_eq_true rfl) ?_
  refine sp_cHouse (fun n => ?_) (fun n => ?_)
  · show fs_Ag g m_Fs_look 20 fs_Z3 (271, 0, 0) 8 [(0, fs_r 0), (1, fs_i a), (2, fs_i b)] [fs_i 0] M _ _
    refine g_if_ne (tgt := 21) d_Fs_look_8 rfl (fun q => absurd rfl q) (fun _ => ?_)
    refine g_throw (q := 3003) (rx := prog_21_method_2_code) (ix := 7) (by decide +kernel) (by decide +kernel) (by decide +kernel) (by decide +kernel) (by decide) (by decide) (by decide) ⟨fs_inB 1317 (by decide +kernel) rfl, fs_inB 172 (by decide +kernel) rfl⟩ fs_lkw1 fs_lkt1 (fun s H h => h.2.2.2.2.2.2.2.2.1) d_Fs_look_11 d_Fs_look_14 d_Fs_look_15 d_Fs_look_17 d_Fs_look_20 rfl (by decide) ⟨by decide, by decide⟩ (h1 (by unfold fs_lkx; rw [if_neg n]))
  · show fs_Ag g m_Fs_look 20 fs_Z3 (271, 0, 0) 8 [(0, fs_r 0), (1, fs_i a), (2, fs_i b)] [fs_i 1] M _ _
    refine g_if_ne (tgt := 21) d_Fs_look_8 rfl (fun _ => ?_) (fun q => absurd q (by decide))
    refine g_iload_n (j := 2) d_Fs_look_21 rfl rfl ?_
    by_cases nb : 0 ≤ b ∧ b ≤ 5
    · have h3 := h3 (by unfold fs_lkx; rw [if_pos n, if_pos nb])
      have hz3 : fs_zok 20 1 fs_Z3 fs_Z2 (271, 0, 0) := ⟨by decide, rfl, rfl, by decide, by decide, fun q => by cases q⟩
      have hb6 : b = 0 ∨ b = 1 ∨ b = 2 ∨ b = 3 ∨ b = 4 ∨ b = 5 := by omega
      rcases hb6 with rfl | rfl | rfl | rfl | rfl | rfl
      · refine g_tableIn (tgt := 60) d_Fs_look_22 (by decide) (by decide) rfl rfl (g_toX ?_)
        refine a_aload_n (j := 0) d_Fs_look_60 rfl rfl ?_
        refine a_getptr (q := 1) d_Fs_look_61 fl_Fs_12 rfl io_0 (by decide) rfl rfl rfl ?_
        refine a_getptr (q := 3) d_Fs_look_64 fl_Fs_161 rfl io_1 (by decide) rfl rfl rfl ?_
        refine a_iload_n (j := 1) d_Fs_look_67 rfl rfl ?_
        refine a_iaload d_Fs_look_68 ia_3 (by decide) n.1 (by omega) ?_
        exact a_ireturn d_Fs_look_69 rfl rfl ⟨rfl, by decide, by decide⟩ h3
      · refine g_tableIn (tgt := 70) d_Fs_look_22 (by decide) (by decide) rfl rfl (g_toX ?_)
        refine a_aload_n (j := 0) d_Fs_look_70 rfl rfl ?_
        refine a_getptr (q := 1) d_Fs_look_71 fl_Fs_12 rfl io_0 (by decide) rfl rfl rfl ?_
        refine a_getptr (q := 4) d_Fs_look_74 fl_Fs_164 rfl io_1 (by decide) rfl rfl rfl ?_
        refine a_iload_n (j := 1) d_Fs_look_77 rfl rfl ?_
        refine a_iaload d_Fs_look_78 ia_4 (by decide) n.1 (by omega) ?_
        exact a_ireturn d_Fs_look_79 rfl rfl ⟨rfl, by decide, by decide⟩ h3
      · refine g_tableIn (tgt := 80) d_Fs_look_22 (by decide) (by decide) rfl rfl (g_toX ?_)
        refine a_aload_n (j := 0) d_Fs_look_80 rfl rfl ?_
        refine a_getptr (q := 1) d_Fs_look_81 fl_Fs_12 rfl io_0 (by decide) rfl rfl rfl ?_
        refine a_getptr (q := 5) d_Fs_look_84 fl_Fs_167 rfl io_1 (by decide) rfl rfl rfl ?_
        refine a_iload_n (j := 1) d_Fs_look_87 rfl rfl ?_
        refine a_iaload d_Fs_look_88 ia_5 (by decide) n.1 (by omega) ?_
        exact a_ireturn d_Fs_look_89 rfl rfl ⟨rfl, by decide, by decide⟩ h3
      · refine g_tableIn (tgt := 90) d_Fs_look_22 (by decide) (by decide) rfl rfl (g_toX ?_)
        refine a_aload_n (j := 0) d_Fs_look_90 rfl rfl ?_
        refine a_getptr (q := 1) d_Fs_look_91 fl_Fs_12 rfl io_0 (by decide) rfl rfl rfl ?_
        refine a_getfield (v := fs_i (M 1 4)) d_Fs_look_94 fl_Fs_170 io_1 (by decide) rfl ?_
        refine a_iload_n (j := 1) d_Fs_look_97 rfl rfl ?_
        refine a_invokestatic (dc := 1) (zc := fs_Z2) [fs_i (M 1 4), fs_i a] [] d_Fs_look_98 ml_Fs_173 k_Fs_bit s_Fs_bit rfl hz3 rfl (Nat.le_of_ble_eq_true rfl) (E_Fs_bit ?_)
        exact a_ireturn d_Fs_look_101 rfl rfl ⟨rfl, by decide, by decide⟩ h3
      · refine g_tableIn (tgt := 102) d_Fs_look_22 (by decide) (by decide) rfl rfl (g_toX ?_)
        refine a_aload_n (j := 0) d_Fs_look_102 rfl rfl ?_
        refine a_getptr (q := 31) d_Fs_look_103 fl_Fs_31 rfl io_0 (by decide) rfl rfl rfl ?_
        refine a_getfield (v := fs_i (M 31 2)) d_Fs_look_106 fl_Fs_177 io_31 (by decide) rfl ?_
        refine a_iload_n (j := 1) d_Fs_look_109 rfl rfl ?_
        refine a_invokestatic (dc := 1) (zc := fs_Z2) [fs_i (M 31 2), fs_i a] [] d_Fs_look_110 ml_Fs_173 k_Fs_bit s_Fs_bit rfl hz3 rfl (Nat.le_of_ble_eq_true rfl) (E_Fs_bit ?_)
        exact a_ireturn d_Fs_look_113 rfl rfl ⟨rfl, by decide, by decide⟩ h3
      · refine g_tableIn (tgt := 114) d_Fs_look_22 (by decide) (by decide) rfl rfl (g_toX ?_)
        refine a_aload_n (j := 0) d_Fs_look_114 rfl rfl ?_
        refine a_getptr (q := 31) d_Fs_look_115 fl_Fs_31 rfl io_0 (by decide) rfl rfl rfl ?_
        refine a_getfield (v := fs_i (M 31 3)) d_Fs_look_118 fl_Fs_180 io_31 (by decide) rfl ?_
        refine a_iload_n (j := 1) d_Fs_look_121 rfl rfl ?_
        refine a_invokestatic (dc := 1) (zc := fs_Z2) [fs_i (M 31 3), fs_i a] [] d_Fs_look_122 ml_Fs_173 k_Fs_bit s_Fs_bit rfl hz3 rfl (Nat.le_of_ble_eq_true rfl) (E_Fs_bit ?_)
        exact a_ireturn d_Fs_look_125 rfl rfl ⟨rfl, by decide, by decide⟩ h3
    · refine g_tableOut (tgt := 126) d_Fs_look_22 (by omega) rfl ?_
      refine g_throw (q := 3004) (rx := prog_32_method_4_code) (ix := 13) (by decide +kernel) (by decide +kernel) (by decide +kernel) (by decide +kernel) (by decide) (by decide) (by decide) ⟨fs_inB 1384 (by decide +kernel) rfl, fs_inB 173 (by decide +kernel) rfl⟩ fs_lkw2 fs_lkt2 (fun s H h => h.2.2.2.2.2.2.2.2.2.1) d_Fs_look_126 d_Fs_look_129 d_Fs_look_130 d_Fs_look_132 d_Fs_look_135 rfl (by decide) ⟨by decide, by decide⟩ (h2 (by unfold fs_lkx; rw [if_pos n, if_neg nb]))
end LOOKC
