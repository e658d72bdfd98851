-- ===== printed by program (wip/whole/gen9w.py): the law's ops =====
/-- the law's method, whatever it is called -/
abbrev m_LawN (nm : String) : fs_D := (⟨"FirstSillLaw", nm, "([I)Z"⟩, code, 7, some .boolean)
abbrev fs_ZL : fs_Z := (2, 271, 271, 601024, 7293034)
abbrev fs_LS (i : Int) : List (Nat × fs_V) := [(0, fs_r 3000), (1, fs_r 0), (2, fs_r 226), (3, fs_r 270), (4, fs_i i)]
def fs_sx (g : fs_G) (i : Int) : Int := (g_xs g i.toNat).toInt
theorem fs_zokL {d dc k j : Nat} (h : dc + 1 ≤ d) (hk : k ≤ 601024) (hj : j ≤ 7293034) : fs_zok d dc fs_ZL fs_Z2 (271, k, j) := ⟨h, rfl, rfl, hk, hj, fun q => by cases q⟩
section LAWOPS
variable {g : fs_G} {nm : String} {y : Nat × Nat × Nat} {pc : Nat} {st : List fs_V} {M : fs_M} {K : fs_K} {i : Int} {k j : Nat} {d : Nat} {z : fs_Z}
theorem l_arg {n : Int} (d0 : decode m_Law_law.2.1 pc = .ok (.aload_n 0, 1)) (d1 : decode m_Law_law.2.1 (pc + 1) = .ok (.iload 4, 2)) (d3 : decode m_Law_law.2.1 (pc + 3) = .ok (.iconst n, 1)) (d4 : decode m_Law_law.2.1 (pc + 4) = .ok (.iadd, 1)) (d5 : decode m_Law_law.2.1 (pc + 5) = .ok (.iaload, 1)) (hn : 0 ≤ n ∧ n ≤ 5) (hi : 0 ≤ i ∧ i + 6 ≤ g_L g) (hL : g_L g ≤ 3072) (ls' : List (Nat × fs_V))
    (kk : fs_At g (m_LawN nm) d z y (pc + 6) (fs_LS i ++ ls') (fs_i (fs_sx g (i + n)) :: st) M K) : fs_At g (m_LawN nm) d z y pc (fs_LS i ++ ls') st M K := by
  refine a_aload_n (j := 0) d0 rfl rfl ?_
  refine a_iload (j := 4) d1 rfl ?_
  refine a_iconst d3 (by unfold fs_in32; omega) ?_
  refine a_iadd d4 ?_
  rw [fs_w32_of (x := i + n) (by omega) (by omega)]
  exact a_sload d5 (by omega) (by omega) kk
theorem l_bool {v : Int} {ls : List (Nat × fs_V)} (d0 : decode m_Law_law.2.1 pc = .ok (.ifCond .eq 7, 3)) (d3 : decode m_Law_law.2.1 (pc + 3) = .ok (.iconst 1, 1)) (d4 : decode m_Law_law.2.1 (pc + 4) = .ok (.goto 4, 3)) (d7 : decode m_Law_law.2.1 (pc + 7) = .ok (.iconst 0, 1))
    (kk : fs_At g (m_LawN nm) d z y (pc + 8) ls (fs_i (if v = 0 then 0 else 1) :: st) M K) : fs_At g (m_LawN nm) d z y pc ls (fs_i v :: st) M K := by
  refine a_if_eq (tgt := pc + 7) d0 (by omega) (fun q => ?_) (fun q => ?_)
  · rw [if_pos q] at kk
    exact a_iconst d7 (by unfold fs_in32; omega) kk
  · rw [if_neg q] at kk
    exact a_iconst d3 (by unfold fs_in32; omega) (a_goto (tgt := pc + 8) d4 (by omega) kk)
/-- the law's look -/
theorem a_lawlook {md : fs_D} {ls : List (Nat × fs_V)} {a b : Int} {rest : List fs_V} (hd : decode md.2.1 pc = .ok (.invokestatic 39, 3)) (hmd : md.1.cls = "FirstSillLaw") (hz : 23 ≤ d ∧ z.1 = 2 ∧ y.1 = 271 ∧ y.2.1 + 1 ≤ z.2.2.2.1 ∧ y.2.2 + 6 ≤ z.2.2.2.2) (hwt : fs_wt rest ≤ 8) (h5 : M 1 5 ≤ 6)
    (kk : fs_At g md d z (271, y.2.1 + 1, y.2.2 + 6) (pc + 3) ls (fs_i (fs_lkx M a b) :: rest) (fs_lkM M a b) K) : fs_At g md d z y pc ls (fs_r 270 :: fs_i b :: fs_i a :: fs_r 0 :: rest) M K := by
  intro p e R s m args below meth c C H locs lc hll hR hS hI hlo hok
  have hts : ∀ w ∈ fs_B, w.before args s = true := C.2.2.2.2.2.2.1
  have hSt := C.2.2.2.2.2.2.2.1
  have hroom := C.2.2.2.2.2.2.2.2.1
  have hM := sp_lawLook (g := g) (K := fun v M1 => fs_At g md d z (271, y.2.1 + 1, y.2.2 + 6) (pc + 3) ls (v.toList ++ rest) M1 K) (by rw [← hz.2.1]; exact hI) hok.t.t.h hok.t.h h5 kk
  have hcw : Cond.codeWith m_Law_look.1 m_Law_look.2.1 m_Law_look.2.2.1 m_Law_look.2.2.2 fs_LH ∈ fs_B := fs_inB 1310 (by decide +kernel) rfl
  have hlk : Cond.methodLink md.1.cls 39 m_Law_look.1 ∈ fs_B := by rw [hmd]; exact fs_inB 1308 (by decide +kernel) rfl
  have hstt : Cond.static m_Law_look.1 ∈ fs_B := fs_inB 1309 (by decide +kernel) rfl
  have hini : Cond.initialized m_Law_look.1.cls ∈ fs_B := fs_inB 147 (by decide +kernel) rfl
  have h3 := hroom.1
  have h4 := hroom.2.1
  have hrm : (fs_rm 22 1 6).frames + 1 ≤ R.frames ∧ 8 + (m_Law_look.2.2.1 + 11) + (fs_rm 22 1 6).locals ≤ R.locals := by
    show 22 + 1 ≤ R.frames ∧ 8 + (5 + 11) + 64 * 22 ≤ R.locals
    omega
  have hpre : PreS s H (va_Pc ([fs_r 0, fs_i a, fs_i b, fs_r 270].map (fs_e g)) (fun U => fs_R g 2 271 M U.heap ∧ fs_S g U)) ([fs_r 0, fs_i a, fs_i b, fs_r 270].map (fs_e g)) :=
    ⟨fs_blind, fs_pre (z := z) (zc := fs_Z2) hSt hS hR hz.2.2.1.symm (fun q => by cases q)⟩
  have hcl2 : y.2.1 + 1 ≤ R.cells ∧ y.2.2 + 6 ≤ R.slots := ⟨Nat.le_trans hz.2.2.2.1 hroom.2.2.1, Nat.le_trans hz.2.2.2.2 hroom.2.2.2⟩
  have hst : (fs_r 270 :: fs_i b :: fs_i a :: fs_r 0 :: rest).map (fs_e g) = ([fs_r 0, fs_i a, fs_i b, fs_r 270].map (fs_e g)).reverse ++ rest.map (fs_e g) := rfl
  rw [hst]
  have hwt2 : 2 * (F0 m pc lc (([fs_r 0, fs_i a, fs_i b, fs_r 270].map (fs_e g)).reverse ++ rest.map (fs_e g))).monitorRoom + ((rest.map (fs_e g)).map fun v => v.category).sum ≤ 8 := lv_room (by rw [fs_wt_eq]; exact hwt)
  refine fs_kk (zc := fs_Z3) (rest := rest) C ⟨by omega, hz.2.1.symm, hz.2.2.1.symm, hz.2.2.2.1, hz.2.2.2.2, fun q => absurd (hz.2.1.symm.trans q) (by decide)⟩ hll hR hS hlo hok.t.t.t.t (a := ([fs_r 0, fs_i a, fs_i b, fs_r 270].map (fs_e g)).toArray) (dc := 22) ?_
  refine vx_runSW (Ts := fs_B) (own := md.1.cls) (nL := md.2.2.1) (n := 4) (hh := fs_LH) (As := [fs_r 0, fs_i a, fs_i b, fs_r 270].map (fs_e g)) (rest := rest.map (fs_e g)) ⟨C.1, C.2.1, C.2.2.1, C.2.2.2.2.2.1, hts⟩ hM (vx_cwSW 4 hts ?_ rfl rfl rfl ⟨by decide +kernel, by decide +kernel, by decide +kernel⟩ hrm) hpre rfl rfl hll.1 rfl hwt2 hd hcl2
  intro w hw2
  unfold va_wsS at hw2
  rcases List.mem_append.mp hw2 with h1 | h1
  · have hmem : w ∈ fs_B := by
      rcases List.mem_cons.mp h1 with rfl | h1
      · exact hlk
      rcases List.mem_cons.mp h1 with rfl | h1
      · exact hstt
      rcases List.mem_cons.mp h1 with rfl | h1
      · exact hini
      · cases h1
    exact ⟨hmem, fs_goodB hmem⟩
  · rcases List.mem_cons.mp h1 with rfl | h1
    · exact ⟨hcw, fs_goodB hcw⟩
    · exact ⟨h1, fs_goodB h1⟩
theorem fs_sx_le (g : fs_G) (i : Int) : fs_sx g i ≤ 2147483647 := by
  have h := Int32.toInt_lt (g_xs g i.toNat)
  show (g_xs g i.toNat).toInt ≤ 2147483647
  omega
set_option maxRecDepth 8000 in
set_option maxHeartbeats 4000000 in
theorem law_feed (hR : fs_Rl M) (hi : 0 ≤ i ∧ i + 6 ≤ g_L g) (hL : g_L g ≤ 3072) (hk : k ≤ 601024) (hj : j ≤ 7293034) (next : ∀ M2, fs_Rl M2 → fs_At g (m_LawN nm) 170 fs_ZL (271, k, j) 1538 (fs_LS i) [] M2 K) : fs_At g (m_LawN nm) 170 fs_ZL (271, k, j) 212 (fs_LS i) [] M K := by
  refine a_aload_n (j := 1) d_Law_law_212 rfl rfl ?_
  refine l_arg (n := 1) d_Law_law_213 d_Law_law_214 d_Law_law_216 d_Law_law_217 d_Law_law_218 (by omega) hi hL [] ?_
  refine l_arg (n := 2) d_Law_law_219 d_Law_law_220 d_Law_law_222 d_Law_law_223 d_Law_law_224 (by omega) hi hL [] ?_
  refine l_arg (n := 3) d_Law_law_225 d_Law_law_226 d_Law_law_228 d_Law_law_229 d_Law_law_230 (by omega) hi hL [] ?_
  refine l_arg (n := 4) d_Law_law_231 d_Law_law_232 d_Law_law_234 d_Law_law_235 d_Law_law_236 (by omega) hi hL [] ?_
  refine l_arg (n := 5) d_Law_law_237 d_Law_law_238 d_Law_law_240 d_Law_law_241 d_Law_law_242 (by omega) hi hL [] ?_
  refine a_invokevirtual (dc := 2) (zc := fs_Z2) (o := 0) (ci := 10) (T := fs_T10) (N := 17) [fs_i (fs_sx g (i + 1)), fs_i (fs_sx g (i + 2)), fs_i (fs_sx g (i + 3)), fs_i (fs_sx g (i + 4)), fs_i (fs_sx g (i + 5))] [] d_Law_law_243 ml_Law_21 k_Fs_feed v_Fs_feed rfl io_0 (fs_n2 io_0.2) rfl (fs_zokL (by decide) hk hj) rfl (Nat.le_of_ble_eq_true rfl) (fs_Call.mono (fun v M1 hv => ?_) (op_feed hR))
  obtain ⟨r, rfl, h2⟩ := hv
  show fs_At g (m_LawN nm) 170 fs_ZL (271, k, j) 246 (fs_LS i) [fs_i r] M1 K
  refine a_aload_n (j := 2) d_Law_law_246 rfl rfl ?_
  refine l_arg (n := 1) d_Law_law_247 d_Law_law_248 d_Law_law_250 d_Law_law_251 d_Law_law_252 (by omega) hi hL [] ?_
  refine l_arg (n := 2) d_Law_law_253 d_Law_law_254 d_Law_law_256 d_Law_law_257 d_Law_law_258 (by omega) hi hL [] ?_
  refine l_arg (n := 3) d_Law_law_259 d_Law_law_260 d_Law_law_262 d_Law_law_263 d_Law_law_264 (by omega) hi hL [] ?_
  refine l_arg (n := 4) d_Law_law_265 d_Law_law_266 d_Law_law_268 d_Law_law_269 d_Law_law_270 (by omega) hi hL [] ?_
  refine l_arg (n := 5) d_Law_law_271 d_Law_law_272 d_Law_law_274 d_Law_law_275 d_Law_law_276 (by omega) hi hL [] ?_
  refine a_invokevirtual (dc := 1) (zc := fs_Z2) (o := 226) (ci := 11) (T := fs_T11) (N := 78) [fs_i (fs_sx g (i + 1)), fs_i (fs_sx g (i + 2)), fs_i (fs_sx g (i + 3)), fs_i (fs_sx g (i + 4)), fs_i (fs_sx g (i + 5))] [fs_i r] d_Law_law_277 ml_Law_25 k_Mo_feed v_Mo_feed rfl io_226 (fs_n2 io_226.2) rfl (fs_zokL (by decide) hk hj) rfl (Nat.le_of_ble_eq_true rfl) (fs_Call.mono (fun v M2 hv => ?_) h2)
  obtain ⟨rfl, hR2⟩ := hv
  show fs_At g (m_LawN nm) 170 fs_ZL (271, k, j) 280 (fs_LS i) [fs_i r, fs_i r] M2 K
  exact a_icmp_eq (tgt := 1538) d_Law_law_280 rfl (fun _ => next M2 hR2) (fun q => absurd rfl q)
set_option maxRecDepth 8000 in
set_option maxHeartbeats 4000000 in
theorem law_text (hR : fs_Rl M) (hi : 0 ≤ i ∧ i + 6 ≤ g_L g) (hL : g_L g ≤ 3072) (hk : k ≤ 601024) (hj : j ≤ 7293034) (next : ∀ M2, fs_Rl M2 → fs_At g (m_LawN nm) 170 fs_ZL (271, k, j) 1538 (fs_LS i) [] M2 K) : fs_At g (m_LawN nm) 170 fs_ZL (271, k, j) 285 (fs_LS i) [] M K := by
  refine a_aload_n (j := 1) d_Law_law_285 rfl rfl ?_
  refine l_arg (n := 1) d_Law_law_286 d_Law_law_287 d_Law_law_289 d_Law_law_290 d_Law_law_291 (by omega) hi hL [] ?_
  refine a_invokevirtual (dc := 157) (zc := fs_Z2) (o := 0) (ci := 10) (T := fs_T10) (N := 17) [fs_i (fs_sx g (i + 1))] [] d_Law_law_292 ml_Law_26 k_Fs_text v_Fs_text rfl io_0 (fs_n2 io_0.2) rfl (fs_zokL (by decide) hk hj) rfl (Nat.le_of_ble_eq_true rfl) (fs_Call.mono (fun v M1 hv => ?_) (op_text hR))
  obtain ⟨r, rfl, h2⟩ := hv
  show fs_At g (m_LawN nm) 170 fs_ZL (271, k, j) 295 (fs_LS i) [fs_i r] M1 K
  refine a_aload_n (j := 2) d_Law_law_295 rfl rfl ?_
  refine l_arg (n := 1) d_Law_law_296 d_Law_law_297 d_Law_law_299 d_Law_law_300 d_Law_law_301 (by omega) hi hL [] ?_
  refine a_invokevirtual (dc := 160) (zc := fs_Z2) (o := 226) (ci := 11) (T := fs_T11) (N := 78) [fs_i (fs_sx g (i + 1))] [fs_i r] d_Law_law_302 ml_Law_30 k_Mo_text v_Mo_text rfl io_226 (fs_n2 io_226.2) rfl (fs_zokL (by decide) hk hj) rfl (Nat.le_of_ble_eq_true rfl) (fs_Call.mono (fun v M2 hv => ?_) h2)
  obtain ⟨rfl, hR2⟩ := hv
  show fs_At g (m_LawN nm) 170 fs_ZL (271, k, j) 305 (fs_LS i) [fs_i r, fs_i r] M2 K
  exact a_icmp_eq (tgt := 1538) d_Law_law_305 rfl (fun _ => next M2 hR2) (fun q => absurd rfl q)
set_option maxRecDepth 8000 in
set_option maxHeartbeats 4000000 in
theorem law_fault (hR : fs_Rl M) (hi : 0 ≤ i ∧ i + 6 ≤ g_L g) (hL : g_L g ≤ 3072) (hk : k ≤ 601024) (hj : j ≤ 7293034) (next : ∀ M2, fs_Rl M2 → fs_At g (m_LawN nm) 170 fs_ZL (271, k, j) 1538 (fs_LS i) [] M2 K) : fs_At g (m_LawN nm) 170 fs_ZL (271, k, j) 310 (fs_LS i) [] M K := by
  refine a_aload_n (j := 1) d_Law_law_310 rfl rfl ?_
  refine l_arg (n := 1) d_Law_law_311 d_Law_law_312 d_Law_law_314 d_Law_law_315 d_Law_law_316 (by omega) hi hL [] ?_
  refine a_invokevirtual (dc := 1) (zc := fs_Z2) (o := 0) (ci := 10) (T := fs_T10) (N := 17) [fs_i (fs_sx g (i + 1))] [] d_Law_law_317 ml_Law_31 k_Fs_fault v_Fs_fault rfl io_0 (fs_n2 io_0.2) rfl (fs_zokL (by decide) hk hj) rfl (Nat.le_of_ble_eq_true rfl) (fs_Call.mono (fun v M1 hv => ?_) (op_fault hR))
  obtain ⟨r, rfl, h2⟩ := hv
  show fs_At g (m_LawN nm) 170 fs_ZL (271, k, j) 320 (fs_LS i) [fs_i r] M1 K
  refine a_aload_n (j := 2) d_Law_law_320 rfl rfl ?_
  refine l_arg (n := 1) d_Law_law_321 d_Law_law_322 d_Law_law_324 d_Law_law_325 d_Law_law_326 (by omega) hi hL [] ?_
  refine a_invokevirtual (dc := 1) (zc := fs_Z2) (o := 226) (ci := 11) (T := fs_T11) (N := 78) [fs_i (fs_sx g (i + 1))] [fs_i r] d_Law_law_327 ml_Law_34 k_Mo_fault v_Mo_fault rfl io_226 (fs_n2 io_226.2) rfl (fs_zokL (by decide) hk hj) rfl (Nat.le_of_ble_eq_true rfl) (fs_Call.mono (fun v M2 hv => ?_) h2)
  obtain ⟨rfl, hR2⟩ := hv
  show fs_At g (m_LawN nm) 170 fs_ZL (271, k, j) 330 (fs_LS i) [fs_i r, fs_i r] M2 K
  exact a_icmp_eq (tgt := 1538) d_Law_law_330 rfl (fun _ => next M2 hR2) (fun q => absurd rfl q)
set_option maxRecDepth 8000 in
set_option maxHeartbeats 4000000 in
theorem law_named (hR : fs_Rl M) (hi : 0 ≤ i ∧ i + 6 ≤ g_L g) (hL : g_L g ≤ 3072) (hk : k ≤ 601024) (hj : j ≤ 7293034) (next : ∀ M2, fs_Rl M2 → fs_At g (m_LawN nm) 170 fs_ZL (271, k, j) 1538 (fs_LS i) [] M2 K) : fs_At g (m_LawN nm) 170 fs_ZL (271, k, j) 335 (fs_LS i) [] M K := by
  refine a_aload_n (j := 1) d_Law_law_335 rfl rfl ?_
  refine l_arg (n := 1) d_Law_law_336 d_Law_law_337 d_Law_law_339 d_Law_law_340 d_Law_law_341 (by omega) hi hL [] ?_
  refine l_arg (n := 2) d_Law_law_342 d_Law_law_343 d_Law_law_345 d_Law_law_346 d_Law_law_347 (by omega) hi hL [] ?_
  refine a_invokevirtual (dc := 2) (zc := fs_Z2) (o := 0) (ci := 10) (T := fs_T10) (N := 17) [fs_i (fs_sx g (i + 1)), fs_i (fs_sx g (i + 2))] [] d_Law_law_348 ml_Law_35 k_Fs_named v_Fs_named rfl io_0 (fs_n2 io_0.2) rfl (fs_zokL (by decide) hk hj) rfl (Nat.le_of_ble_eq_true rfl) (fs_Call.mono (fun v M1 hv => ?_) (op_named hR))
  obtain ⟨r, rfl, h2⟩ := hv
  show fs_At g (m_LawN nm) 170 fs_ZL (271, k, j) 351 (fs_LS i) [fs_i r] M1 K
  refine a_aload_n (j := 2) d_Law_law_351 rfl rfl ?_
  refine l_arg (n := 1) d_Law_law_352 d_Law_law_353 d_Law_law_355 d_Law_law_356 d_Law_law_357 (by omega) hi hL [] ?_
  refine l_arg (n := 2) d_Law_law_358 d_Law_law_359 d_Law_law_361 d_Law_law_362 d_Law_law_363 (by omega) hi hL [] ?_
  refine a_invokevirtual (dc := 2) (zc := fs_Z2) (o := 226) (ci := 11) (T := fs_T11) (N := 78) [fs_i (fs_sx g (i + 1)), fs_i (fs_sx g (i + 2))] [fs_i r] d_Law_law_364 ml_Law_38 k_Mo_named v_Mo_named rfl io_226 (fs_n2 io_226.2) rfl (fs_zokL (by decide) hk hj) rfl (Nat.le_of_ble_eq_true rfl) (fs_Call.mono (fun v M2 hv => ?_) h2)
  obtain ⟨rfl, hR2⟩ := hv
  show fs_At g (m_LawN nm) 170 fs_ZL (271, k, j) 367 (fs_LS i) [fs_i r, fs_i r] M2 K
  exact a_icmp_eq (tgt := 1538) d_Law_law_367 rfl (fun _ => next M2 hR2) (fun q => absurd rfl q)
set_option maxRecDepth 8000 in
set_option maxHeartbeats 4000000 in
theorem law_dark (hR : fs_Rl M) (hi : 0 ≤ i ∧ i + 6 ≤ g_L g) (hL : g_L g ≤ 3072) (hk : k ≤ 601024) (hj : j ≤ 7293034) (next : ∀ M2, fs_Rl M2 → fs_At g (m_LawN nm) 170 fs_ZL (271, k, j) 1538 (fs_LS i) [] M2 K) : fs_At g (m_LawN nm) 170 fs_ZL (271, k, j) 440 (fs_LS i) [] M K := by
  refine a_aload_n (j := 1) d_Law_law_440 rfl rfl ?_
  refine l_arg (n := 1) d_Law_law_441 d_Law_law_442 d_Law_law_444 d_Law_law_445 d_Law_law_446 (by omega) hi hL [] ?_
  refine l_arg (n := 2) d_Law_law_447 d_Law_law_448 d_Law_law_450 d_Law_law_451 d_Law_law_452 (by omega) hi hL [] ?_
  refine a_invokevirtual (dc := 2) (zc := fs_Z2) (o := 0) (ci := 10) (T := fs_T10) (N := 17) [fs_i (fs_sx g (i + 1)), fs_i (fs_sx g (i + 2))] [] d_Law_law_453 ml_Law_49 k_Fs_dark v_Fs_dark rfl io_0 (fs_n2 io_0.2) rfl (fs_zokL (by decide) hk hj) rfl (Nat.le_of_ble_eq_true rfl) (fs_Call.mono (fun v M1 hv => ?_) (op_dark (fs_sx_le g _) hR))
  obtain ⟨r, rfl, h2⟩ := hv
  show fs_At g (m_LawN nm) 170 fs_ZL (271, k, j) 456 (fs_LS i) [fs_i r] M1 K
  refine a_aload_n (j := 2) d_Law_law_456 rfl rfl ?_
  refine l_arg (n := 1) d_Law_law_457 d_Law_law_458 d_Law_law_460 d_Law_law_461 d_Law_law_462 (by omega) hi hL [] ?_
  refine l_arg (n := 2) d_Law_law_463 d_Law_law_464 d_Law_law_466 d_Law_law_467 d_Law_law_468 (by omega) hi hL [] ?_
  refine a_invokevirtual (dc := 2) (zc := fs_Z2) (o := 226) (ci := 11) (T := fs_T11) (N := 78) [fs_i (fs_sx g (i + 1)), fs_i (fs_sx g (i + 2))] [fs_i r] d_Law_law_469 ml_Law_52 k_Mo_dark v_Mo_dark rfl io_226 (fs_n2 io_226.2) rfl (fs_zokL (by decide) hk hj) rfl (Nat.le_of_ble_eq_true rfl) (fs_Call.mono (fun v M2 hv => ?_) h2)
  obtain ⟨rfl, hR2⟩ := hv
  show fs_At g (m_LawN nm) 170 fs_ZL (271, k, j) 472 (fs_LS i) [fs_i r, fs_i r] M2 K
  exact a_icmp_eq (tgt := 1538) d_Law_law_472 rfl (fun _ => next M2 hR2) (fun q => absurd rfl q)
set_option maxRecDepth 8000 in
set_option maxHeartbeats 4000000 in
theorem law_walk (hR : fs_Rl M) (hi : 0 ≤ i ∧ i + 6 ≤ g_L g) (hL : g_L g ≤ 3072) (hk : k ≤ 601024) (hj : j ≤ 7293034) (next : ∀ M2, fs_Rl M2 → fs_At g (m_LawN nm) 170 fs_ZL (271, k, j) 1538 (fs_LS i) [] M2 K) : fs_At g (m_LawN nm) 170 fs_ZL (271, k, j) 477 (fs_LS i) [] M K := by
  refine a_aload_n (j := 1) d_Law_law_477 rfl rfl ?_
  refine l_arg (n := 1) d_Law_law_478 d_Law_law_479 d_Law_law_481 d_Law_law_482 d_Law_law_483 (by omega) hi hL [] ?_
  refine l_arg (n := 2) d_Law_law_484 d_Law_law_485 d_Law_law_487 d_Law_law_488 d_Law_law_489 (by omega) hi hL [] ?_
  refine l_arg (n := 3) d_Law_law_490 d_Law_law_491 d_Law_law_493 d_Law_law_494 d_Law_law_495 (by omega) hi hL [] ?_
  refine l_arg (n := 4) d_Law_law_496 d_Law_law_497 d_Law_law_499 d_Law_law_500 d_Law_law_501 (by omega) hi hL [] ?_
  refine l_arg (n := 5) d_Law_law_502 d_Law_law_503 d_Law_law_505 d_Law_law_506 d_Law_law_507 (by omega) hi hL [] ?_
  refine a_invokevirtual (dc := 5) (zc := fs_Z2) (o := 0) (ci := 10) (T := fs_T10) (N := 17) [fs_i (fs_sx g (i + 1)), fs_i (fs_sx g (i + 2)), fs_i (fs_sx g (i + 3)), fs_i (fs_sx g (i + 4)), fs_i (fs_sx g (i + 5))] [] d_Law_law_508 ml_Law_53 k_Fs_walk v_Fs_walk rfl io_0 (fs_n2 io_0.2) rfl (fs_zokL (by decide) hk hj) rfl (Nat.le_of_ble_eq_true rfl) (fs_Call.mono (fun v M1 hv => ?_) (op_walk hR))
  obtain ⟨r, rfl, h2⟩ := hv
  show fs_At g (m_LawN nm) 170 fs_ZL (271, k, j) 511 (fs_LS i) [fs_i r] M1 K
  refine a_aload_n (j := 2) d_Law_law_511 rfl rfl ?_
  refine l_arg (n := 1) d_Law_law_512 d_Law_law_513 d_Law_law_515 d_Law_law_516 d_Law_law_517 (by omega) hi hL [] ?_
  refine l_arg (n := 2) d_Law_law_518 d_Law_law_519 d_Law_law_521 d_Law_law_522 d_Law_law_523 (by omega) hi hL [] ?_
  refine l_arg (n := 3) d_Law_law_524 d_Law_law_525 d_Law_law_527 d_Law_law_528 d_Law_law_529 (by omega) hi hL [] ?_
  refine l_arg (n := 4) d_Law_law_530 d_Law_law_531 d_Law_law_533 d_Law_law_534 d_Law_law_535 (by omega) hi hL [] ?_
  refine l_arg (n := 5) d_Law_law_536 d_Law_law_537 d_Law_law_539 d_Law_law_540 d_Law_law_541 (by omega) hi hL [] ?_
  refine a_invokevirtual (dc := 6) (zc := fs_Z2) (o := 226) (ci := 11) (T := fs_T11) (N := 78) [fs_i (fs_sx g (i + 1)), fs_i (fs_sx g (i + 2)), fs_i (fs_sx g (i + 3)), fs_i (fs_sx g (i + 4)), fs_i (fs_sx g (i + 5))] [fs_i r] d_Law_law_542 ml_Law_56 k_Mo_walk v_Mo_walk rfl io_226 (fs_n2 io_226.2) rfl (fs_zokL (by decide) hk hj) rfl (Nat.le_of_ble_eq_true rfl) (fs_Call.mono (fun v M2 hv => ?_) h2)
  obtain ⟨rfl, hR2⟩ := hv
  show fs_At g (m_LawN nm) 170 fs_ZL (271, k, j) 545 (fs_LS i) [fs_i r, fs_i r] M2 K
  exact a_icmp_eq (tgt := 1538) d_Law_law_545 rfl (fun _ => next M2 hR2) (fun q => absurd rfl q)
set_option maxRecDepth 8000 in
set_option maxHeartbeats 4000000 in
theorem law_stays (hR : fs_Rl M) (hi : 0 ≤ i ∧ i + 6 ≤ g_L g) (hL : g_L g ≤ 3072) (hk : k ≤ 601024) (hj : j ≤ 7293034) (next : ∀ M2, fs_Rl M2 → fs_At g (m_LawN nm) 170 fs_ZL (271, k, j) 1538 (fs_LS i) [] M2 K) : fs_At g (m_LawN nm) 170 fs_ZL (271, k, j) 550 (fs_LS i) [] M K := by
  refine a_aload_n (j := 1) d_Law_law_550 rfl rfl ?_
  refine l_arg (n := 1) d_Law_law_551 d_Law_law_552 d_Law_law_554 d_Law_law_555 d_Law_law_556 (by omega) hi hL [] ?_
  refine l_arg (n := 2) d_Law_law_557 d_Law_law_558 d_Law_law_560 d_Law_law_561 d_Law_law_562 (by omega) hi hL [] ?_
  refine l_arg (n := 3) d_Law_law_563 d_Law_law_564 d_Law_law_566 d_Law_law_567 d_Law_law_568 (by omega) hi hL [] ?_
  refine l_arg (n := 4) d_Law_law_569 d_Law_law_570 d_Law_law_572 d_Law_law_573 d_Law_law_574 (by omega) hi hL [] ?_
  refine l_arg (n := 5) d_Law_law_575 d_Law_law_576 d_Law_law_578 d_Law_law_579 d_Law_law_580 (by omega) hi hL [] ?_
  refine a_invokevirtual (dc := 5) (zc := fs_Z2) (o := 0) (ci := 10) (T := fs_T10) (N := 17) [fs_i (fs_sx g (i + 1)), fs_i (fs_sx g (i + 2)), fs_i (fs_sx g (i + 3)), fs_i (fs_sx g (i + 4)), fs_i (fs_sx g (i + 5))] [] d_Law_law_581 ml_Law_57 k_Fs_stays v_Fs_stays rfl io_0 (fs_n2 io_0.2) rfl (fs_zokL (by decide) hk hj) rfl (Nat.le_of_ble_eq_true rfl) (fs_Call.mono (fun v M1 hv => ?_) (op_stays hR))
  obtain ⟨r, rfl, h2⟩ := hv
  show fs_At g (m_LawN nm) 170 fs_ZL (271, k, j) 584 (fs_LS i) [fs_i r] M1 K
  refine a_aload_n (j := 2) d_Law_law_584 rfl rfl ?_
  refine l_arg (n := 1) d_Law_law_585 d_Law_law_586 d_Law_law_588 d_Law_law_589 d_Law_law_590 (by omega) hi hL [] ?_
  refine l_arg (n := 2) d_Law_law_591 d_Law_law_592 d_Law_law_594 d_Law_law_595 d_Law_law_596 (by omega) hi hL [] ?_
  refine l_arg (n := 3) d_Law_law_597 d_Law_law_598 d_Law_law_600 d_Law_law_601 d_Law_law_602 (by omega) hi hL [] ?_
  refine l_arg (n := 4) d_Law_law_603 d_Law_law_604 d_Law_law_606 d_Law_law_607 d_Law_law_608 (by omega) hi hL [] ?_
  refine l_arg (n := 5) d_Law_law_609 d_Law_law_610 d_Law_law_612 d_Law_law_613 d_Law_law_614 (by omega) hi hL [] ?_
  refine a_invokevirtual (dc := 5) (zc := fs_Z2) (o := 226) (ci := 11) (T := fs_T11) (N := 78) [fs_i (fs_sx g (i + 1)), fs_i (fs_sx g (i + 2)), fs_i (fs_sx g (i + 3)), fs_i (fs_sx g (i + 4)), fs_i (fs_sx g (i + 5))] [fs_i r] d_Law_law_615 ml_Law_60 k_Mo_stays v_Mo_stays rfl io_226 (fs_n2 io_226.2) rfl (fs_zokL (by decide) hk hj) rfl (Nat.le_of_ble_eq_true rfl) (fs_Call.mono (fun v M2 hv => ?_) h2)
  obtain ⟨rfl, hR2⟩ := hv
  show fs_At g (m_LawN nm) 170 fs_ZL (271, k, j) 618 (fs_LS i) [fs_i r, fs_i r] M2 K
  exact a_icmp_eq (tgt := 1538) d_Law_law_618 rfl (fun _ => next M2 hR2) (fun q => absurd rfl q)
set_option maxRecDepth 8000 in
set_option maxHeartbeats 4000000 in
theorem law_cat (hR : fs_Rl M) (hi : 0 ≤ i ∧ i + 6 ≤ g_L g) (hL : g_L g ≤ 3072) (hk : k ≤ 601024) (hj : j ≤ 7293034) (next : ∀ M2, fs_Rl M2 → fs_At g (m_LawN nm) 170 fs_ZL (271, k, j) 1538 (fs_LS i) [] M2 K) : fs_At g (m_LawN nm) 170 fs_ZL (271, k, j) 623 (fs_LS i) [] M K := by
  refine a_aload_n (j := 1) d_Law_law_623 rfl rfl ?_
  refine l_arg (n := 1) d_Law_law_624 d_Law_law_625 d_Law_law_627 d_Law_law_628 d_Law_law_629 (by omega) hi hL [] ?_
  refine l_arg (n := 2) d_Law_law_630 d_Law_law_631 d_Law_law_633 d_Law_law_634 d_Law_law_635 (by omega) hi hL [] ?_
  refine a_invokevirtual (dc := 5) (zc := fs_Z2) (o := 0) (ci := 10) (T := fs_T10) (N := 17) [fs_i (fs_sx g (i + 1)), fs_i (fs_sx g (i + 2))] [] d_Law_law_636 ml_Law_61 k_Fs_cat v_Fs_cat rfl io_0 (fs_n2 io_0.2) rfl (fs_zokL (by decide) hk hj) rfl (Nat.le_of_ble_eq_true rfl) (fs_Call.mono (fun v M1 hv => ?_) (op_cat hR))
  obtain ⟨r, rfl, h2⟩ := hv
  show fs_At g (m_LawN nm) 170 fs_ZL (271, k, j) 639 (fs_LS i) [fs_i r] M1 K
  refine a_aload_n (j := 2) d_Law_law_639 rfl rfl ?_
  refine l_arg (n := 1) d_Law_law_640 d_Law_law_641 d_Law_law_643 d_Law_law_644 d_Law_law_645 (by omega) hi hL [] ?_
  refine l_arg (n := 2) d_Law_law_646 d_Law_law_647 d_Law_law_649 d_Law_law_650 d_Law_law_651 (by omega) hi hL [] ?_
  refine a_invokevirtual (dc := 6) (zc := fs_Z2) (o := 226) (ci := 11) (T := fs_T11) (N := 78) [fs_i (fs_sx g (i + 1)), fs_i (fs_sx g (i + 2))] [fs_i r] d_Law_law_652 ml_Law_64 k_Mo_cat v_Mo_cat rfl io_226 (fs_n2 io_226.2) rfl (fs_zokL (by decide) hk hj) rfl (Nat.le_of_ble_eq_true rfl) (fs_Call.mono (fun v M2 hv => ?_) h2)
  obtain ⟨rfl, hR2⟩ := hv
  show fs_At g (m_LawN nm) 170 fs_ZL (271, k, j) 655 (fs_LS i) [fs_i r, fs_i r] M2 K
  exact a_icmp_eq (tgt := 1538) d_Law_law_655 rfl (fun _ => next M2 hR2) (fun q => absurd rfl q)
set_option maxRecDepth 8000 in
set_option maxHeartbeats 4000000 in
theorem law_send (hR : fs_Rl M) (hi : 0 ≤ i ∧ i + 6 ≤ g_L g) (hL : g_L g ≤ 3072) (hk : k ≤ 601024) (hj : j ≤ 7293034) (next : ∀ M2, fs_Rl M2 → fs_At g (m_LawN nm) 170 fs_ZL (271, k, j) 1538 (fs_LS i) [] M2 K) : fs_At g (m_LawN nm) 170 fs_ZL (271, k, j) 660 (fs_LS i) [] M K := by
  refine a_aload_n (j := 1) d_Law_law_660 rfl rfl ?_
  refine l_arg (n := 1) d_Law_law_661 d_Law_law_662 d_Law_law_664 d_Law_law_665 d_Law_law_666 (by omega) hi hL [] ?_
  refine l_arg (n := 2) d_Law_law_667 d_Law_law_668 d_Law_law_670 d_Law_law_671 d_Law_law_672 (by omega) hi hL [] ?_
  refine a_invokevirtual (dc := 3) (zc := fs_Z2) (o := 0) (ci := 10) (T := fs_T10) (N := 17) [fs_i (fs_sx g (i + 1)), fs_i (fs_sx g (i + 2))] [] d_Law_law_673 ml_Law_65 k_Fs_send v_Fs_send rfl io_0 (fs_n2 io_0.2) rfl (fs_zokL (by decide) hk hj) rfl (Nat.le_of_ble_eq_true rfl) (fs_Call.mono (fun v M1 hv => ?_) (op_send hR))
  obtain ⟨r, rfl, h2⟩ := hv
  show fs_At g (m_LawN nm) 170 fs_ZL (271, k, j) 676 (fs_LS i) [fs_i r] M1 K
  refine a_aload_n (j := 2) d_Law_law_676 rfl rfl ?_
  refine l_arg (n := 1) d_Law_law_677 d_Law_law_678 d_Law_law_680 d_Law_law_681 d_Law_law_682 (by omega) hi hL [] ?_
  refine l_arg (n := 2) d_Law_law_683 d_Law_law_684 d_Law_law_686 d_Law_law_687 d_Law_law_688 (by omega) hi hL [] ?_
  refine a_invokevirtual (dc := 3) (zc := fs_Z2) (o := 226) (ci := 11) (T := fs_T11) (N := 78) [fs_i (fs_sx g (i + 1)), fs_i (fs_sx g (i + 2))] [fs_i r] d_Law_law_689 ml_Law_68 k_Mo_send v_Mo_send rfl io_226 (fs_n2 io_226.2) rfl (fs_zokL (by decide) hk hj) rfl (Nat.le_of_ble_eq_true rfl) (fs_Call.mono (fun v M2 hv => ?_) h2)
  obtain ⟨rfl, hR2⟩ := hv
  show fs_At g (m_LawN nm) 170 fs_ZL (271, k, j) 692 (fs_LS i) [fs_i r, fs_i r] M2 K
  exact a_icmp_eq (tgt := 1538) d_Law_law_692 rfl (fun _ => next M2 hR2) (fun q => absurd rfl q)
set_option maxRecDepth 8000 in
set_option maxHeartbeats 4000000 in
theorem law_drop (hR : fs_Rl M) (hi : 0 ≤ i ∧ i + 6 ≤ g_L g) (hL : g_L g ≤ 3072) (hk : k ≤ 601024) (hj : j ≤ 7293034) (next : ∀ M2, fs_Rl M2 → fs_At g (m_LawN nm) 170 fs_ZL (271, k, j) 1538 (fs_LS i) [] M2 K) : fs_At g (m_LawN nm) 170 fs_ZL (271, k, j) 697 (fs_LS i) [] M K := by
  refine a_aload_n (j := 1) d_Law_law_697 rfl rfl ?_
  refine l_arg (n := 1) d_Law_law_698 d_Law_law_699 d_Law_law_701 d_Law_law_702 d_Law_law_703 (by omega) hi hL [] ?_
  refine a_invokevirtual (dc := 3) (zc := fs_Z2) (o := 0) (ci := 10) (T := fs_T10) (N := 17) [fs_i (fs_sx g (i + 1))] [] d_Law_law_704 ml_Law_69 k_Fs_drop v_Fs_drop rfl io_0 (fs_n2 io_0.2) rfl (fs_zokL (by decide) hk hj) rfl (Nat.le_of_ble_eq_true rfl) (fs_Call.mono (fun v M1 hv => ?_) (op_drop hR))
  obtain ⟨r, rfl, h2⟩ := hv
  show fs_At g (m_LawN nm) 170 fs_ZL (271, k, j) 707 (fs_LS i) [fs_i r] M1 K
  refine a_aload_n (j := 2) d_Law_law_707 rfl rfl ?_
  refine l_arg (n := 1) d_Law_law_708 d_Law_law_709 d_Law_law_711 d_Law_law_712 d_Law_law_713 (by omega) hi hL [] ?_
  refine a_invokevirtual (dc := 3) (zc := fs_Z2) (o := 226) (ci := 11) (T := fs_T11) (N := 78) [fs_i (fs_sx g (i + 1))] [fs_i r] d_Law_law_714 ml_Law_72 k_Mo_drop v_Mo_drop rfl io_226 (fs_n2 io_226.2) rfl (fs_zokL (by decide) hk hj) rfl (Nat.le_of_ble_eq_true rfl) (fs_Call.mono (fun v M2 hv => ?_) h2)
  obtain ⟨rfl, hR2⟩ := hv
  show fs_At g (m_LawN nm) 170 fs_ZL (271, k, j) 717 (fs_LS i) [fs_i r, fs_i r] M2 K
  exact a_icmp_eq (tgt := 1538) d_Law_law_717 rfl (fun _ => next M2 hR2) (fun q => absurd rfl q)
set_option maxRecDepth 8000 in
set_option maxHeartbeats 4000000 in
theorem law_glass (hR : fs_Rl M) (hi : 0 ≤ i ∧ i + 6 ≤ g_L g) (hL : g_L g ≤ 3072) (hk : k ≤ 601024) (hj : j ≤ 7293034) (next : ∀ M2, fs_Rl M2 → fs_At g (m_LawN nm) 170 fs_ZL (271, k, j) 1538 (fs_LS i) [] M2 K) : fs_At g (m_LawN nm) 170 fs_ZL (271, k, j) 722 (fs_LS i) [] M K := by
  refine a_aload_n (j := 1) d_Law_law_722 rfl rfl ?_
  refine l_arg (n := 1) d_Law_law_723 d_Law_law_724 d_Law_law_726 d_Law_law_727 d_Law_law_728 (by omega) hi hL [] ?_
  refine l_arg (n := 2) d_Law_law_729 d_Law_law_730 d_Law_law_732 d_Law_law_733 d_Law_law_734 (by omega) hi hL [] ?_
  refine l_bool d_Law_law_735 d_Law_law_738 d_Law_law_739 d_Law_law_742 ?_
  refine a_invokevirtual (dc := 3) (zc := fs_Z2) (o := 0) (ci := 10) (T := fs_T10) (N := 17) [fs_i (fs_sx g (i + 1)), fs_i (if fs_sx g (i + 2) = 0 then 0 else 1)] [] d_Law_law_743 ml_Law_73 k_Fs_glass v_Fs_glass rfl io_0 (fs_n2 io_0.2) rfl (fs_zokL (by decide) hk hj) rfl (Nat.le_of_ble_eq_true rfl) (fs_Call.mono (fun v M1 hv => ?_) (op_glass hR))
  obtain ⟨r, rfl, h2⟩ := hv
  show fs_At g (m_LawN nm) 170 fs_ZL (271, k, j) 746 (fs_LS i) [fs_i r] M1 K
  refine a_aload_n (j := 2) d_Law_law_746 rfl rfl ?_
  refine l_arg (n := 1) d_Law_law_747 d_Law_law_748 d_Law_law_750 d_Law_law_751 d_Law_law_752 (by omega) hi hL [] ?_
  refine l_arg (n := 2) d_Law_law_753 d_Law_law_754 d_Law_law_756 d_Law_law_757 d_Law_law_758 (by omega) hi hL [] ?_
  refine l_bool d_Law_law_759 d_Law_law_762 d_Law_law_763 d_Law_law_766 ?_
  refine a_invokevirtual (dc := 3) (zc := fs_Z2) (o := 226) (ci := 11) (T := fs_T11) (N := 78) [fs_i (fs_sx g (i + 1)), fs_i (if fs_sx g (i + 2) = 0 then 0 else 1)] [fs_i r] d_Law_law_767 ml_Law_77 k_Mo_glass v_Mo_glass rfl io_226 (fs_n2 io_226.2) rfl (fs_zokL (by decide) hk hj) rfl (Nat.le_of_ble_eq_true rfl) (fs_Call.mono (fun v M2 hv => ?_) h2)
  obtain ⟨rfl, hR2⟩ := hv
  show fs_At g (m_LawN nm) 170 fs_ZL (271, k, j) 770 (fs_LS i) [fs_i r, fs_i r] M2 K
  exact a_icmp_eq (tgt := 1538) d_Law_law_770 rfl (fun _ => next M2 hR2) (fun q => absurd rfl q)
set_option maxRecDepth 8000 in
set_option maxHeartbeats 4000000 in
theorem law_out (hR : fs_Rl M) (hi : 0 ≤ i ∧ i + 6 ≤ g_L g) (hL : g_L g ≤ 3072) (hk : k ≤ 601024) (hj : j ≤ 7293034) (next : ∀ M2, fs_Rl M2 → fs_At g (m_LawN nm) 170 fs_ZL (271, k, j) 1538 (fs_LS i) [] M2 K) : fs_At g (m_LawN nm) 170 fs_ZL (271, k, j) 775 (fs_LS i) [] M K := by
  refine a_aload_n (j := 1) d_Law_law_775 rfl rfl ?_
  refine l_arg (n := 1) d_Law_law_776 d_Law_law_777 d_Law_law_779 d_Law_law_780 d_Law_law_781 (by omega) hi hL [] ?_
  refine l_arg (n := 2) d_Law_law_782 d_Law_law_783 d_Law_law_785 d_Law_law_786 d_Law_law_787 (by omega) hi hL [] ?_
  refine l_bool d_Law_law_788 d_Law_law_791 d_Law_law_792 d_Law_law_795 ?_
  refine a_invokevirtual (dc := 3) (zc := fs_Z2) (o := 0) (ci := 10) (T := fs_T10) (N := 17) [fs_i (fs_sx g (i + 1)), fs_i (if fs_sx g (i + 2) = 0 then 0 else 1)] [] d_Law_law_796 ml_Law_78 k_Fs_out v_Fs_out rfl io_0 (fs_n2 io_0.2) rfl (fs_zokL (by decide) hk hj) rfl (Nat.le_of_ble_eq_true rfl) (fs_Call.mono (fun v M1 hv => ?_) (op_out hR))
  obtain ⟨r, rfl, h2⟩ := hv
  show fs_At g (m_LawN nm) 170 fs_ZL (271, k, j) 799 (fs_LS i) [fs_i r] M1 K
  refine a_aload_n (j := 2) d_Law_law_799 rfl rfl ?_
  refine l_arg (n := 1) d_Law_law_800 d_Law_law_801 d_Law_law_803 d_Law_law_804 d_Law_law_805 (by omega) hi hL [] ?_
  refine l_arg (n := 2) d_Law_law_806 d_Law_law_807 d_Law_law_809 d_Law_law_810 d_Law_law_811 (by omega) hi hL [] ?_
  refine l_bool d_Law_law_812 d_Law_law_815 d_Law_law_816 d_Law_law_819 ?_
  refine a_invokevirtual (dc := 3) (zc := fs_Z2) (o := 226) (ci := 11) (T := fs_T11) (N := 78) [fs_i (fs_sx g (i + 1)), fs_i (if fs_sx g (i + 2) = 0 then 0 else 1)] [fs_i r] d_Law_law_820 ml_Law_81 k_Mo_out v_Mo_out rfl io_226 (fs_n2 io_226.2) rfl (fs_zokL (by decide) hk hj) rfl (Nat.le_of_ble_eq_true rfl) (fs_Call.mono (fun v M2 hv => ?_) h2)
  obtain ⟨rfl, hR2⟩ := hv
  show fs_At g (m_LawN nm) 170 fs_ZL (271, k, j) 823 (fs_LS i) [fs_i r, fs_i r] M2 K
  exact a_icmp_eq (tgt := 1538) d_Law_law_823 rfl (fun _ => next M2 hR2) (fun q => absurd rfl q)
set_option maxRecDepth 8000 in
set_option maxHeartbeats 4000000 in
theorem law_done (hR : fs_Rl M) (hi : 0 ≤ i ∧ i + 6 ≤ g_L g) (hL : g_L g ≤ 3072) (hk : k ≤ 601024) (hj : j ≤ 7293034) (next : ∀ M2, fs_Rl M2 → fs_At g (m_LawN nm) 170 fs_ZL (271, k, j) 1538 (fs_LS i) [] M2 K) : fs_At g (m_LawN nm) 170 fs_ZL (271, k, j) 828 (fs_LS i) [] M K := by
  refine a_aload_n (j := 1) d_Law_law_828 rfl rfl ?_
  refine l_arg (n := 1) d_Law_law_829 d_Law_law_830 d_Law_law_832 d_Law_law_833 d_Law_law_834 (by omega) hi hL [] ?_
  refine l_arg (n := 2) d_Law_law_835 d_Law_law_836 d_Law_law_838 d_Law_law_839 d_Law_law_840 (by omega) hi hL [] ?_
  refine a_invokevirtual (dc := 8) (zc := fs_Z2) (o := 0) (ci := 10) (T := fs_T10) (N := 17) [fs_i (fs_sx g (i + 1)), fs_i (fs_sx g (i + 2))] [] d_Law_law_841 ml_Law_82 k_Fs_done v_Fs_done rfl io_0 (fs_n2 io_0.2) rfl (fs_zokL (by decide) hk hj) rfl (Nat.le_of_ble_eq_true rfl) (fs_Call.mono (fun v M1 hv => ?_) (op_done hR))
  obtain ⟨r, rfl, h2⟩ := hv
  show fs_At g (m_LawN nm) 170 fs_ZL (271, k, j) 844 (fs_LS i) [fs_i r] M1 K
  refine a_aload_n (j := 2) d_Law_law_844 rfl rfl ?_
  refine l_arg (n := 1) d_Law_law_845 d_Law_law_846 d_Law_law_848 d_Law_law_849 d_Law_law_850 (by omega) hi hL [] ?_
  refine l_arg (n := 2) d_Law_law_851 d_Law_law_852 d_Law_law_854 d_Law_law_855 d_Law_law_856 (by omega) hi hL [] ?_
  refine a_invokevirtual (dc := 9) (zc := fs_Z2) (o := 226) (ci := 11) (T := fs_T11) (N := 78) [fs_i (fs_sx g (i + 1)), fs_i (fs_sx g (i + 2))] [fs_i r] d_Law_law_857 ml_Law_85 k_Mo_done v_Mo_done rfl io_226 (fs_n2 io_226.2) rfl (fs_zokL (by decide) hk hj) rfl (Nat.le_of_ble_eq_true rfl) (fs_Call.mono (fun v M2 hv => ?_) h2)
  obtain ⟨rfl, hR2⟩ := hv
  show fs_At g (m_LawN nm) 170 fs_ZL (271, k, j) 860 (fs_LS i) [fs_i r, fs_i r] M2 K
  exact a_icmp_eq (tgt := 1538) d_Law_law_860 rfl (fun _ => next M2 hR2) (fun q => absurd rfl q)
set_option maxRecDepth 8000 in
set_option maxHeartbeats 4000000 in
theorem law_where (hR : fs_Rl M) (hi : 0 ≤ i ∧ i + 6 ≤ g_L g) (hL : g_L g ≤ 3072) (hk : k ≤ 601024) (hj : j ≤ 7293034) (next : ∀ M2, fs_Rl M2 → fs_At g (m_LawN nm) 170 fs_ZL (271, k, j) 1538 (fs_LS i) [] M2 K) : fs_At g (m_LawN nm) 170 fs_ZL (271, k, j) 865 (fs_LS i) [] M K := by
  refine a_aload_n (j := 1) d_Law_law_865 rfl rfl ?_
  refine l_arg (n := 1) d_Law_law_866 d_Law_law_867 d_Law_law_869 d_Law_law_870 d_Law_law_871 (by omega) hi hL [] ?_
  refine l_arg (n := 2) d_Law_law_872 d_Law_law_873 d_Law_law_875 d_Law_law_876 d_Law_law_877 (by omega) hi hL [] ?_
  refine a_invokevirtual (dc := 8) (zc := fs_Z2) (o := 0) (ci := 10) (T := fs_T10) (N := 17) [fs_i (fs_sx g (i + 1)), fs_i (fs_sx g (i + 2))] [] d_Law_law_878 ml_Law_86 k_Fs_where v_Fs_where rfl io_0 (fs_n2 io_0.2) rfl (fs_zokL (by decide) hk hj) rfl (Nat.le_of_ble_eq_true rfl) (fs_Call.mono (fun v M1 hv => ?_) (op_where hR))
  obtain ⟨r, rfl, h2⟩ := hv
  show fs_At g (m_LawN nm) 170 fs_ZL (271, k, j) 881 (fs_LS i) [fs_i r] M1 K
  refine a_aload_n (j := 2) d_Law_law_881 rfl rfl ?_
  refine l_arg (n := 1) d_Law_law_882 d_Law_law_883 d_Law_law_885 d_Law_law_886 d_Law_law_887 (by omega) hi hL [] ?_
  refine l_arg (n := 2) d_Law_law_888 d_Law_law_889 d_Law_law_891 d_Law_law_892 d_Law_law_893 (by omega) hi hL [] ?_
  refine a_invokevirtual (dc := 9) (zc := fs_Z2) (o := 226) (ci := 11) (T := fs_T11) (N := 78) [fs_i (fs_sx g (i + 1)), fs_i (fs_sx g (i + 2))] [fs_i r] d_Law_law_894 ml_Law_89 k_Mo_where v_Mo_where rfl io_226 (fs_n2 io_226.2) rfl (fs_zokL (by decide) hk hj) rfl (Nat.le_of_ble_eq_true rfl) (fs_Call.mono (fun v M2 hv => ?_) h2)
  obtain ⟨rfl, hR2⟩ := hv
  show fs_At g (m_LawN nm) 170 fs_ZL (271, k, j) 897 (fs_LS i) [fs_i r, fs_i r] M2 K
  exact a_icmp_eq (tgt := 1538) d_Law_law_897 rfl (fun _ => next M2 hR2) (fun q => absurd rfl q)
set_option maxRecDepth 8000 in
set_option maxHeartbeats 4000000 in
theorem law_gain (hR : fs_Rl M) (hi : 0 ≤ i ∧ i + 6 ≤ g_L g) (hL : g_L g ≤ 3072) (hk : k ≤ 601024) (hj : j ≤ 7293034) (next : ∀ M2, fs_Rl M2 → fs_At g (m_LawN nm) 170 fs_ZL (271, k, j) 1538 (fs_LS i) [] M2 K) : fs_At g (m_LawN nm) 170 fs_ZL (271, k, j) 902 (fs_LS i) [] M K := by
  refine a_aload_n (j := 1) d_Law_law_902 rfl rfl ?_
  refine a_invokevirtual (dc := 8) (zc := fs_Z2) (o := 0) (ci := 10) (T := fs_T10) (N := 17) [] [] d_Law_law_903 ml_Law_90 k_Fs_gain v_Fs_gain rfl io_0 (fs_n2 io_0.2) rfl (fs_zokL (by decide) hk hj) rfl (Nat.le_of_ble_eq_true rfl) (fs_Call.mono (fun v M1 hv => ?_) (op_gain hR))
  obtain ⟨r, rfl, h2⟩ := hv
  show fs_At g (m_LawN nm) 170 fs_ZL (271, k, j) 906 (fs_LS i) [fs_i r] M1 K
  refine a_aload_n (j := 2) d_Law_law_906 rfl rfl ?_
  refine a_invokevirtual (dc := 10) (zc := fs_Z2) (o := 226) (ci := 11) (T := fs_T11) (N := 78) [] [fs_i r] d_Law_law_907 ml_Law_93 k_Mo_gain v_Mo_gain rfl io_226 (fs_n2 io_226.2) rfl (fs_zokL (by decide) hk hj) rfl (Nat.le_of_ble_eq_true rfl) (fs_Call.mono (fun v M2 hv => ?_) h2)
  obtain ⟨rfl, hR2⟩ := hv
  show fs_At g (m_LawN nm) 170 fs_ZL (271, k, j) 910 (fs_LS i) [fs_i r, fs_i r] M2 K
  exact a_icmp_eq (tgt := 1538) d_Law_law_910 rfl (fun _ => next M2 hR2) (fun q => absurd rfl q)
set_option maxRecDepth 8000 in
set_option maxHeartbeats 4000000 in
theorem law_night (hR : fs_Rl M) (hi : 0 ≤ i ∧ i + 6 ≤ g_L g) (hL : g_L g ≤ 3072) (hk : k ≤ 601024) (hj : j ≤ 7293034) (next : ∀ M2, fs_Rl M2 → fs_At g (m_LawN nm) 170 fs_ZL (271, k, j) 1538 (fs_LS i) [] M2 K) : fs_At g (m_LawN nm) 170 fs_ZL (271, k, j) 915 (fs_LS i) [] M K := by
  refine a_aload_n (j := 1) d_Law_law_915 rfl rfl ?_
  refine a_invokevirtual (dc := 8) (zc := fs_Z2) (o := 0) (ci := 10) (T := fs_T10) (N := 17) [] [] d_Law_law_916 ml_Law_94 k_Fs_night v_Fs_night rfl io_0 (fs_n2 io_0.2) rfl (fs_zokL (by decide) hk hj) rfl (Nat.le_of_ble_eq_true rfl) (fs_Call.mono (fun v M1 hv => ?_) (op_night hR))
  obtain ⟨r, rfl, h2⟩ := hv
  show fs_At g (m_LawN nm) 170 fs_ZL (271, k, j) 919 (fs_LS i) [fs_i r] M1 K
  refine a_aload_n (j := 2) d_Law_law_919 rfl rfl ?_
  refine a_invokevirtual (dc := 9) (zc := fs_Z2) (o := 226) (ci := 11) (T := fs_T11) (N := 78) [] [fs_i r] d_Law_law_920 ml_Law_97 k_Mo_night v_Mo_night rfl io_226 (fs_n2 io_226.2) rfl (fs_zokL (by decide) hk hj) rfl (Nat.le_of_ble_eq_true rfl) (fs_Call.mono (fun v M2 hv => ?_) h2)
  obtain ⟨rfl, hR2⟩ := hv
  show fs_At g (m_LawN nm) 170 fs_ZL (271, k, j) 923 (fs_LS i) [fs_i r, fs_i r] M2 K
  exact a_icmp_eq (tgt := 1538) d_Law_law_923 rfl (fun _ => next M2 hR2) (fun q => absurd rfl q)
set_option maxRecDepth 8000 in
set_option maxHeartbeats 4000000 in
theorem law_was (hR : fs_Rl M) (hi : 0 ≤ i ∧ i + 6 ≤ g_L g) (hL : g_L g ≤ 3072) (hk : k ≤ 601024) (hj : j ≤ 7293034) (next : ∀ M2, fs_Rl M2 → fs_At g (m_LawN nm) 170 fs_ZL (271, k, j) 1538 (fs_LS i) [] M2 K) : fs_At g (m_LawN nm) 170 fs_ZL (271, k, j) 928 (fs_LS i) [] M K := by
  refine a_aload_n (j := 1) d_Law_law_928 rfl rfl ?_
  refine l_arg (n := 1) d_Law_law_929 d_Law_law_930 d_Law_law_932 d_Law_law_933 d_Law_law_934 (by omega) hi hL [] ?_
  refine l_arg (n := 2) d_Law_law_935 d_Law_law_936 d_Law_law_938 d_Law_law_939 d_Law_law_940 (by omega) hi hL [] ?_
  refine a_invokevirtual (dc := 2) (zc := fs_Z2) (o := 0) (ci := 10) (T := fs_T10) (N := 17) [fs_i (fs_sx g (i + 1)), fs_i (fs_sx g (i + 2))] [] d_Law_law_941 ml_Law_98 k_Fs_was v_Fs_was rfl io_0 (fs_n2 io_0.2) rfl (fs_zokL (by decide) hk hj) rfl (Nat.le_of_ble_eq_true rfl) (fs_Call.mono (fun v M1 hv => ?_) (op_was hR))
  obtain ⟨r, rfl, h2⟩ := hv
  show fs_At g (m_LawN nm) 170 fs_ZL (271, k, j) 944 (fs_LS i) [fs_i r] M1 K
  refine a_aload_n (j := 2) d_Law_law_944 rfl rfl ?_
  refine l_arg (n := 1) d_Law_law_945 d_Law_law_946 d_Law_law_948 d_Law_law_949 d_Law_law_950 (by omega) hi hL [] ?_
  refine l_arg (n := 2) d_Law_law_951 d_Law_law_952 d_Law_law_954 d_Law_law_955 d_Law_law_956 (by omega) hi hL [] ?_
  refine a_invokevirtual (dc := 2) (zc := fs_Z2) (o := 226) (ci := 11) (T := fs_T11) (N := 78) [fs_i (fs_sx g (i + 1)), fs_i (fs_sx g (i + 2))] [fs_i r] d_Law_law_957 ml_Law_101 k_Mo_was v_Mo_was rfl io_226 (fs_n2 io_226.2) rfl (fs_zokL (by decide) hk hj) rfl (Nat.le_of_ble_eq_true rfl) (fs_Call.mono (fun v M2 hv => ?_) h2)
  obtain ⟨rfl, hR2⟩ := hv
  show fs_At g (m_LawN nm) 170 fs_ZL (271, k, j) 960 (fs_LS i) [fs_i r, fs_i r] M2 K
  exact a_icmp_eq (tgt := 1538) d_Law_law_960 rfl (fun _ => next M2 hR2) (fun q => absurd rfl q)
set_option maxRecDepth 8000 in
set_option maxHeartbeats 4000000 in
theorem law_chance (hR : fs_Rl M) (hi : 0 ≤ i ∧ i + 6 ≤ g_L g) (hL : g_L g ≤ 3072) (hk : k ≤ 601024) (hj : j ≤ 7293034) (next : ∀ M2, fs_Rl M2 → fs_At g (m_LawN nm) 170 fs_ZL (271, k, j) 1538 (fs_LS i) [] M2 K) : fs_At g (m_LawN nm) 170 fs_ZL (271, k, j) 965 (fs_LS i) [] M K := by
  refine a_aload_n (j := 1) d_Law_law_965 rfl rfl ?_
  refine l_arg (n := 1) d_Law_law_966 d_Law_law_967 d_Law_law_969 d_Law_law_970 d_Law_law_971 (by omega) hi hL [] ?_
  refine l_arg (n := 2) d_Law_law_972 d_Law_law_973 d_Law_law_975 d_Law_law_976 d_Law_law_977 (by omega) hi hL [] ?_
  refine a_invokevirtual (dc := 8) (zc := fs_Z2) (o := 0) (ci := 10) (T := fs_T10) (N := 17) [fs_i (fs_sx g (i + 1)), fs_i (fs_sx g (i + 2))] [] d_Law_law_978 ml_Law_102 k_Fs_chance v_Fs_chance rfl io_0 (fs_n2 io_0.2) rfl (fs_zokL (by decide) hk hj) rfl (Nat.le_of_ble_eq_true rfl) (fs_Call.mono (fun v M1 hv => ?_) (op_chance hR))
  obtain ⟨r, rfl, h2⟩ := hv
  show fs_At g (m_LawN nm) 170 fs_ZL (271, k, j) 981 (fs_LS i) [fs_i r] M1 K
  refine a_aload_n (j := 2) d_Law_law_981 rfl rfl ?_
  refine l_arg (n := 1) d_Law_law_982 d_Law_law_983 d_Law_law_985 d_Law_law_986 d_Law_law_987 (by omega) hi hL [] ?_
  refine l_arg (n := 2) d_Law_law_988 d_Law_law_989 d_Law_law_991 d_Law_law_992 d_Law_law_993 (by omega) hi hL [] ?_
  refine a_invokevirtual (dc := 9) (zc := fs_Z2) (o := 226) (ci := 11) (T := fs_T11) (N := 78) [fs_i (fs_sx g (i + 1)), fs_i (fs_sx g (i + 2))] [fs_i r] d_Law_law_994 ml_Law_105 k_Mo_chance v_Mo_chance rfl io_226 (fs_n2 io_226.2) rfl (fs_zokL (by decide) hk hj) rfl (Nat.le_of_ble_eq_true rfl) (fs_Call.mono (fun v M2 hv => ?_) h2)
  obtain ⟨rfl, hR2⟩ := hv
  show fs_At g (m_LawN nm) 170 fs_ZL (271, k, j) 997 (fs_LS i) [fs_i r, fs_i r] M2 K
  exact a_icmp_eq (tgt := 1538) d_Law_law_997 rfl (fun _ => next M2 hR2) (fun q => absurd rfl q)
set_option maxRecDepth 8000 in
set_option maxHeartbeats 4000000 in
theorem law_best (hR : fs_Rl M) (hi : 0 ≤ i ∧ i + 6 ≤ g_L g) (hL : g_L g ≤ 3072) (hk : k ≤ 601024) (hj : j ≤ 7293034) (next : ∀ M2, fs_Rl M2 → fs_At g (m_LawN nm) 170 fs_ZL (271, k, j) 1538 (fs_LS i) [] M2 K) : fs_At g (m_LawN nm) 170 fs_ZL (271, k, j) 1002 (fs_LS i) [] M K := by
  refine a_aload_n (j := 1) d_Law_law_1002 rfl rfl ?_
  refine l_arg (n := 1) d_Law_law_1003 d_Law_law_1004 d_Law_law_1006 d_Law_law_1007 d_Law_law_1008 (by omega) hi hL [] ?_
  refine a_invokevirtual (dc := 20) (zc := fs_Z2) (o := 0) (ci := 10) (T := fs_T10) (N := 17) [fs_i (fs_sx g (i + 1))] [] d_Law_law_1009 ml_Law_106 k_Fs_best v_Fs_best rfl io_0 (fs_n2 io_0.2) rfl (fs_zokL (by decide) hk hj) rfl (Nat.le_of_ble_eq_true rfl) (fs_Call.mono (fun v M1 hv => ?_) (op_best hR))
  obtain ⟨r, rfl, h2⟩ := hv
  show fs_At g (m_LawN nm) 170 fs_ZL (271, k, j) 1012 (fs_LS i) [fs_i r] M1 K
  refine a_aload_n (j := 2) d_Law_law_1012 rfl rfl ?_
  refine l_arg (n := 1) d_Law_law_1013 d_Law_law_1014 d_Law_law_1016 d_Law_law_1017 d_Law_law_1018 (by omega) hi hL [] ?_
  refine a_invokevirtual (dc := 23) (zc := fs_Z2) (o := 226) (ci := 11) (T := fs_T11) (N := 78) [fs_i (fs_sx g (i + 1))] [fs_i r] d_Law_law_1019 ml_Law_109 k_Mo_best v_Mo_best rfl io_226 (fs_n2 io_226.2) rfl (fs_zokL (by decide) hk hj) rfl (Nat.le_of_ble_eq_true rfl) (fs_Call.mono (fun v M2 hv => ?_) h2)
  obtain ⟨rfl, hR2⟩ := hv
  show fs_At g (m_LawN nm) 170 fs_ZL (271, k, j) 1022 (fs_LS i) [fs_i r, fs_i r] M2 K
  exact a_icmp_eq (tgt := 1538) d_Law_law_1022 rfl (fun _ => next M2 hR2) (fun q => absurd rfl q)
set_option maxRecDepth 8000 in
set_option maxHeartbeats 4000000 in
theorem law_chosen (hR : fs_Rl M) (hi : 0 ≤ i ∧ i + 6 ≤ g_L g) (hL : g_L g ≤ 3072) (hk : k ≤ 601024) (hj : j ≤ 7293034) (next : ∀ M2, fs_Rl M2 → fs_At g (m_LawN nm) 170 fs_ZL (271, k, j) 1538 (fs_LS i) [] M2 K) : fs_At g (m_LawN nm) 170 fs_ZL (271, k, j) 1027 (fs_LS i) [] M K := by
  refine a_aload_n (j := 1) d_Law_law_1027 rfl rfl ?_
  refine l_arg (n := 1) d_Law_law_1028 d_Law_law_1029 d_Law_law_1031 d_Law_law_1032 d_Law_law_1033 (by omega) hi hL [] ?_
  refine l_arg (n := 2) d_Law_law_1034 d_Law_law_1035 d_Law_law_1037 d_Law_law_1038 d_Law_law_1039 (by omega) hi hL [] ?_
  refine l_arg (n := 3) d_Law_law_1040 d_Law_law_1041 d_Law_law_1043 d_Law_law_1044 d_Law_law_1045 (by omega) hi hL [] ?_
  refine a_invokevirtual (dc := 20) (zc := fs_Z2) (o := 0) (ci := 10) (T := fs_T10) (N := 17) [fs_i (fs_sx g (i + 1)), fs_i (fs_sx g (i + 2)), fs_i (fs_sx g (i + 3))] [] d_Law_law_1046 ml_Law_110 k_Fs_chosen v_Fs_chosen rfl io_0 (fs_n2 io_0.2) rfl (fs_zokL (by decide) hk hj) rfl (Nat.le_of_ble_eq_true rfl) (fs_Call.mono (fun v M1 hv => ?_) (op_chosen hR))
  obtain ⟨r, rfl, h2⟩ := hv
  show fs_At g (m_LawN nm) 170 fs_ZL (271, k, j) 1049 (fs_LS i) [fs_i r] M1 K
  refine a_aload_n (j := 2) d_Law_law_1049 rfl rfl ?_
  refine l_arg (n := 1) d_Law_law_1050 d_Law_law_1051 d_Law_law_1053 d_Law_law_1054 d_Law_law_1055 (by omega) hi hL [] ?_
  refine l_arg (n := 2) d_Law_law_1056 d_Law_law_1057 d_Law_law_1059 d_Law_law_1060 d_Law_law_1061 (by omega) hi hL [] ?_
  refine l_arg (n := 3) d_Law_law_1062 d_Law_law_1063 d_Law_law_1065 d_Law_law_1066 d_Law_law_1067 (by omega) hi hL [] ?_
  refine a_invokevirtual (dc := 23) (zc := fs_Z2) (o := 226) (ci := 11) (T := fs_T11) (N := 78) [fs_i (fs_sx g (i + 1)), fs_i (fs_sx g (i + 2)), fs_i (fs_sx g (i + 3))] [fs_i r] d_Law_law_1068 ml_Law_114 k_Mo_chosen v_Mo_chosen rfl io_226 (fs_n2 io_226.2) rfl (fs_zokL (by decide) hk hj) rfl (Nat.le_of_ble_eq_true rfl) (fs_Call.mono (fun v M2 hv => ?_) h2)
  obtain ⟨rfl, hR2⟩ := hv
  show fs_At g (m_LawN nm) 170 fs_ZL (271, k, j) 1071 (fs_LS i) [fs_i r, fs_i r] M2 K
  exact a_icmp_eq (tgt := 1538) d_Law_law_1071 rfl (fun _ => next M2 hR2) (fun q => absurd rfl q)
set_option maxRecDepth 8000 in
set_option maxHeartbeats 4000000 in
theorem law_many (hR : fs_Rl M) (hi : 0 ≤ i ∧ i + 6 ≤ g_L g) (hL : g_L g ≤ 3072) (hk : k ≤ 601024) (hj : j ≤ 7293034) (next : ∀ M2, fs_Rl M2 → fs_At g (m_LawN nm) 170 fs_ZL (271, k, j) 1538 (fs_LS i) [] M2 K) : fs_At g (m_LawN nm) 170 fs_ZL (271, k, j) 1076 (fs_LS i) [] M K := by
  refine a_aload_n (j := 1) d_Law_law_1076 rfl rfl ?_
  refine a_invokevirtual (dc := 20) (zc := fs_Z2) (o := 0) (ci := 10) (T := fs_T10) (N := 17) [] [] d_Law_law_1077 ml_Law_115 k_Fs_many v_Fs_many rfl io_0 (fs_n2 io_0.2) rfl (fs_zokL (by decide) hk hj) rfl (Nat.le_of_ble_eq_true rfl) (fs_Call.mono (fun v M1 hv => ?_) (op_many hR))
  obtain ⟨r, rfl, h2⟩ := hv
  show fs_At g (m_LawN nm) 170 fs_ZL (271, k, j) 1080 (fs_LS i) [fs_i r] M1 K
  refine a_aload_n (j := 2) d_Law_law_1080 rfl rfl ?_
  refine a_invokevirtual (dc := 23) (zc := fs_Z2) (o := 226) (ci := 11) (T := fs_T11) (N := 78) [] [fs_i r] d_Law_law_1081 ml_Law_118 k_Mo_many v_Mo_many rfl io_226 (fs_n2 io_226.2) rfl (fs_zokL (by decide) hk hj) rfl (Nat.le_of_ble_eq_true rfl) (fs_Call.mono (fun v M2 hv => ?_) h2)
  obtain ⟨rfl, hR2⟩ := hv
  show fs_At g (m_LawN nm) 170 fs_ZL (271, k, j) 1084 (fs_LS i) [fs_i r, fs_i r] M2 K
  exact a_icmp_eq (tgt := 1538) d_Law_law_1084 rfl (fun _ => next M2 hR2) (fun q => absurd rfl q)
set_option maxRecDepth 8000 in
set_option maxHeartbeats 4000000 in
theorem law_price (hR : fs_Rl M) (hi : 0 ≤ i ∧ i + 6 ≤ g_L g) (hL : g_L g ≤ 3072) (hk : k ≤ 601024) (hj : j ≤ 7293034) (next : ∀ M2, fs_Rl M2 → fs_At g (m_LawN nm) 170 fs_ZL (271, k, j) 1538 (fs_LS i) [] M2 K) : fs_At g (m_LawN nm) 170 fs_ZL (271, k, j) 1089 (fs_LS i) [] M K := by
  refine a_aload_n (j := 1) d_Law_law_1089 rfl rfl ?_
  refine l_arg (n := 1) d_Law_law_1090 d_Law_law_1091 d_Law_law_1093 d_Law_law_1094 d_Law_law_1095 (by omega) hi hL [] ?_
  refine a_invokevirtual (dc := 20) (zc := fs_Z2) (o := 0) (ci := 10) (T := fs_T10) (N := 17) [fs_i (fs_sx g (i + 1))] [] d_Law_law_1096 ml_Law_119 k_Fs_price v_Fs_price rfl io_0 (fs_n2 io_0.2) rfl (fs_zokL (by decide) hk hj) rfl (Nat.le_of_ble_eq_true rfl) (fs_Call.mono (fun v M1 hv => ?_) (op_price hR))
  obtain ⟨r, rfl, h2⟩ := hv
  show fs_At g (m_LawN nm) 170 fs_ZL (271, k, j) 1099 (fs_LS i) [fs_i r] M1 K
  refine a_aload_n (j := 2) d_Law_law_1099 rfl rfl ?_
  refine l_arg (n := 1) d_Law_law_1100 d_Law_law_1101 d_Law_law_1103 d_Law_law_1104 d_Law_law_1105 (by omega) hi hL [] ?_
  refine a_invokevirtual (dc := 23) (zc := fs_Z2) (o := 226) (ci := 11) (T := fs_T11) (N := 78) [fs_i (fs_sx g (i + 1))] [fs_i r] d_Law_law_1106 ml_Law_122 k_Mo_price v_Mo_price rfl io_226 (fs_n2 io_226.2) rfl (fs_zokL (by decide) hk hj) rfl (Nat.le_of_ble_eq_true rfl) (fs_Call.mono (fun v M2 hv => ?_) h2)
  obtain ⟨rfl, hR2⟩ := hv
  show fs_At g (m_LawN nm) 170 fs_ZL (271, k, j) 1109 (fs_LS i) [fs_i r, fs_i r] M2 K
  exact a_icmp_eq (tgt := 1538) d_Law_law_1109 rfl (fun _ => next M2 hR2) (fun q => absurd rfl q)
set_option maxRecDepth 8000 in
set_option maxHeartbeats 4000000 in
theorem law_all (hR : fs_Rl M) (hi : 0 ≤ i ∧ i + 6 ≤ g_L g) (hL : g_L g ≤ 3072) (hk : k ≤ 601024) (hj : j ≤ 7293034) (next : ∀ M2, fs_Rl M2 → fs_At g (m_LawN nm) 170 fs_ZL (271, k, j) 1538 (fs_LS i) [] M2 K) : fs_At g (m_LawN nm) 170 fs_ZL (271, k, j) 1114 (fs_LS i) [] M K := by
  refine a_aload_n (j := 1) d_Law_law_1114 rfl rfl ?_
  refine l_arg (n := 1) d_Law_law_1115 d_Law_law_1116 d_Law_law_1118 d_Law_law_1119 d_Law_law_1120 (by omega) hi hL [] ?_
  refine a_invokevirtual (dc := 20) (zc := fs_Z2) (o := 0) (ci := 10) (T := fs_T10) (N := 17) [fs_i (fs_sx g (i + 1))] [] d_Law_law_1121 ml_Law_123 k_Fs_all v_Fs_all rfl io_0 (fs_n2 io_0.2) rfl (fs_zokL (by decide) hk hj) rfl (Nat.le_of_ble_eq_true rfl) (fs_Call.mono (fun v M1 hv => ?_) (op_all hR))
  obtain ⟨r, rfl, h2⟩ := hv
  show fs_At g (m_LawN nm) 170 fs_ZL (271, k, j) 1124 (fs_LS i) [fs_i r] M1 K
  refine a_aload_n (j := 2) d_Law_law_1124 rfl rfl ?_
  refine l_arg (n := 1) d_Law_law_1125 d_Law_law_1126 d_Law_law_1128 d_Law_law_1129 d_Law_law_1130 (by omega) hi hL [] ?_
  refine a_invokevirtual (dc := 22) (zc := fs_Z2) (o := 226) (ci := 11) (T := fs_T11) (N := 78) [fs_i (fs_sx g (i + 1))] [fs_i r] d_Law_law_1131 ml_Law_126 k_Mo_all v_Mo_all rfl io_226 (fs_n2 io_226.2) rfl (fs_zokL (by decide) hk hj) rfl (Nat.le_of_ble_eq_true rfl) (fs_Call.mono (fun v M2 hv => ?_) h2)
  obtain ⟨rfl, hR2⟩ := hv
  show fs_At g (m_LawN nm) 170 fs_ZL (271, k, j) 1134 (fs_LS i) [fs_i r, fs_i r] M2 K
  exact a_icmp_eq (tgt := 1538) d_Law_law_1134 rfl (fun _ => next M2 hR2) (fun q => absurd rfl q)
set_option maxRecDepth 8000 in
set_option maxHeartbeats 4000000 in
theorem law_after (hR : fs_Rl M) (hi : 0 ≤ i ∧ i + 6 ≤ g_L g) (hL : g_L g ≤ 3072) (hk : k ≤ 601024) (hj : j ≤ 7293034) (next : ∀ M2, fs_Rl M2 → fs_At g (m_LawN nm) 170 fs_ZL (271, k, j) 1538 (fs_LS i) [] M2 K) : fs_At g (m_LawN nm) 170 fs_ZL (271, k, j) 1139 (fs_LS i) [] M K := by
  refine a_aload_n (j := 1) d_Law_law_1139 rfl rfl ?_
  refine l_arg (n := 1) d_Law_law_1140 d_Law_law_1141 d_Law_law_1143 d_Law_law_1144 d_Law_law_1145 (by omega) hi hL [] ?_
  refine l_arg (n := 2) d_Law_law_1146 d_Law_law_1147 d_Law_law_1149 d_Law_law_1150 d_Law_law_1151 (by omega) hi hL [] ?_
  refine a_invokevirtual (dc := 8) (zc := fs_Z2) (o := 0) (ci := 10) (T := fs_T10) (N := 17) [fs_i (fs_sx g (i + 1)), fs_i (fs_sx g (i + 2))] [] d_Law_law_1152 ml_Law_127 k_Fs_after v_Fs_after rfl io_0 (fs_n2 io_0.2) rfl (fs_zokL (by decide) hk hj) rfl (Nat.le_of_ble_eq_true rfl) (fs_Call.mono (fun v M1 hv => ?_) (op_after hR))
  obtain ⟨r, rfl, h2⟩ := hv
  show fs_At g (m_LawN nm) 170 fs_ZL (271, k, j) 1155 (fs_LS i) [fs_i r] M1 K
  refine a_aload_n (j := 2) d_Law_law_1155 rfl rfl ?_
  refine l_arg (n := 1) d_Law_law_1156 d_Law_law_1157 d_Law_law_1159 d_Law_law_1160 d_Law_law_1161 (by omega) hi hL [] ?_
  refine l_arg (n := 2) d_Law_law_1162 d_Law_law_1163 d_Law_law_1165 d_Law_law_1166 d_Law_law_1167 (by omega) hi hL [] ?_
  refine a_invokevirtual (dc := 9) (zc := fs_Z2) (o := 226) (ci := 11) (T := fs_T11) (N := 78) [fs_i (fs_sx g (i + 1)), fs_i (fs_sx g (i + 2))] [fs_i r] d_Law_law_1168 ml_Law_130 k_Mo_after v_Mo_after rfl io_226 (fs_n2 io_226.2) rfl (fs_zokL (by decide) hk hj) rfl (Nat.le_of_ble_eq_true rfl) (fs_Call.mono (fun v M2 hv => ?_) h2)
  obtain ⟨rfl, hR2⟩ := hv
  show fs_At g (m_LawN nm) 170 fs_ZL (271, k, j) 1171 (fs_LS i) [fs_i r, fs_i r] M2 K
  exact a_icmp_eq (tgt := 1538) d_Law_law_1171 rfl (fun _ => next M2 hR2) (fun q => absurd rfl q)
set_option maxRecDepth 8000 in
set_option maxHeartbeats 4000000 in
theorem law_which (hR : fs_Rl M) (hi : 0 ≤ i ∧ i + 6 ≤ g_L g) (hL : g_L g ≤ 3072) (hk : k ≤ 601024) (hj : j ≤ 7293034) (next : ∀ M2, fs_Rl M2 → fs_At g (m_LawN nm) 170 fs_ZL (271, k, j) 1538 (fs_LS i) [] M2 K) : fs_At g (m_LawN nm) 170 fs_ZL (271, k, j) 1176 (fs_LS i) [] M K := by
  refine a_aload_n (j := 1) d_Law_law_1176 rfl rfl ?_
  refine l_arg (n := 1) d_Law_law_1177 d_Law_law_1178 d_Law_law_1180 d_Law_law_1181 d_Law_law_1182 (by omega) hi hL [] ?_
  refine a_invokevirtual (dc := 8) (zc := fs_Z2) (o := 0) (ci := 10) (T := fs_T10) (N := 17) [fs_i (fs_sx g (i + 1))] [] d_Law_law_1183 ml_Law_131 k_Fs_which v_Fs_which rfl io_0 (fs_n2 io_0.2) rfl (fs_zokL (by decide) hk hj) rfl (Nat.le_of_ble_eq_true rfl) (fs_Call.mono (fun v M1 hv => ?_) (op_which hR))
  obtain ⟨r, rfl, h2⟩ := hv
  show fs_At g (m_LawN nm) 170 fs_ZL (271, k, j) 1186 (fs_LS i) [fs_i r] M1 K
  refine a_aload_n (j := 2) d_Law_law_1186 rfl rfl ?_
  refine l_arg (n := 1) d_Law_law_1187 d_Law_law_1188 d_Law_law_1190 d_Law_law_1191 d_Law_law_1192 (by omega) hi hL [] ?_
  refine a_invokevirtual (dc := 9) (zc := fs_Z2) (o := 226) (ci := 11) (T := fs_T11) (N := 78) [fs_i (fs_sx g (i + 1))] [fs_i r] d_Law_law_1193 ml_Law_134 k_Mo_which v_Mo_which rfl io_226 (fs_n2 io_226.2) rfl (fs_zokL (by decide) hk hj) rfl (Nat.le_of_ble_eq_true rfl) (fs_Call.mono (fun v M2 hv => ?_) h2)
  obtain ⟨rfl, hR2⟩ := hv
  show fs_At g (m_LawN nm) 170 fs_ZL (271, k, j) 1196 (fs_LS i) [fs_i r, fs_i r] M2 K
  exact a_icmp_eq (tgt := 1538) d_Law_law_1196 rfl (fun _ => next M2 hR2) (fun q => absurd rfl q)
set_option maxRecDepth 8000 in
set_option maxHeartbeats 4000000 in
theorem law_exchange (hR : fs_Rl M) (hi : 0 ≤ i ∧ i + 6 ≤ g_L g) (hL : g_L g ≤ 3072) (hk : k ≤ 601024) (hj : j ≤ 7293034) (next : ∀ M2, fs_Rl M2 → fs_At g (m_LawN nm) 170 fs_ZL (271, k, j) 1538 (fs_LS i) [] M2 K) : fs_At g (m_LawN nm) 170 fs_ZL (271, k, j) 1201 (fs_LS i) [] M K := by
  refine a_aload_n (j := 1) d_Law_law_1201 rfl rfl ?_
  refine l_arg (n := 1) d_Law_law_1202 d_Law_law_1203 d_Law_law_1205 d_Law_law_1206 d_Law_law_1207 (by omega) hi hL [] ?_
  refine a_invokevirtual (dc := 9) (zc := fs_Z2) (o := 0) (ci := 10) (T := fs_T10) (N := 17) [fs_i (fs_sx g (i + 1))] [] d_Law_law_1208 ml_Law_135 k_Fs_exchange v_Fs_exchange rfl io_0 (fs_n2 io_0.2) rfl (fs_zokL (by decide) hk hj) rfl (Nat.le_of_ble_eq_true rfl) (fs_Call.mono (fun v M1 hv => ?_) (op_exchange hR))
  obtain ⟨r, rfl, h2⟩ := hv
  show fs_At g (m_LawN nm) 170 fs_ZL (271, k, j) 1211 (fs_LS i) [fs_i r] M1 K
  refine a_aload_n (j := 2) d_Law_law_1211 rfl rfl ?_
  refine l_arg (n := 1) d_Law_law_1212 d_Law_law_1213 d_Law_law_1215 d_Law_law_1216 d_Law_law_1217 (by omega) hi hL [] ?_
  refine a_invokevirtual (dc := 11) (zc := fs_Z2) (o := 226) (ci := 11) (T := fs_T11) (N := 78) [fs_i (fs_sx g (i + 1))] [fs_i r] d_Law_law_1218 ml_Law_138 k_Mo_exchange v_Mo_exchange rfl io_226 (fs_n2 io_226.2) rfl (fs_zokL (by decide) hk hj) rfl (Nat.le_of_ble_eq_true rfl) (fs_Call.mono (fun v M2 hv => ?_) h2)
  obtain ⟨rfl, hR2⟩ := hv
  show fs_At g (m_LawN nm) 170 fs_ZL (271, k, j) 1221 (fs_LS i) [fs_i r, fs_i r] M2 K
  exact a_icmp_eq (tgt := 1538) d_Law_law_1221 rfl (fun _ => next M2 hR2) (fun q => absurd rfl q)
set_option maxRecDepth 8000 in
set_option maxHeartbeats 4000000 in
theorem law_climb (hR : fs_Rl M) (hi : 0 ≤ i ∧ i + 6 ≤ g_L g) (hL : g_L g ≤ 3072) (hk : k ≤ 601024) (hj : j ≤ 7293034) (next : ∀ M2, fs_Rl M2 → fs_At g (m_LawN nm) 170 fs_ZL (271, k, j) 1538 (fs_LS i) [] M2 K) : fs_At g (m_LawN nm) 170 fs_ZL (271, k, j) 1226 (fs_LS i) [] M K := by
  refine a_aload_n (j := 1) d_Law_law_1226 rfl rfl ?_
  refine a_invokevirtual (dc := 9) (zc := fs_Z2) (o := 0) (ci := 10) (T := fs_T10) (N := 17) [] [] d_Law_law_1227 ml_Law_139 k_Fs_climb v_Fs_climb rfl io_0 (fs_n2 io_0.2) rfl (fs_zokL (by decide) hk hj) rfl (Nat.le_of_ble_eq_true rfl) (fs_Call.mono (fun v M1 hv => ?_) (op_climb hR))
  obtain ⟨r, rfl, h2⟩ := hv
  show fs_At g (m_LawN nm) 170 fs_ZL (271, k, j) 1230 (fs_LS i) [fs_i r] M1 K
  refine a_aload_n (j := 2) d_Law_law_1230 rfl rfl ?_
  refine a_invokevirtual (dc := 11) (zc := fs_Z2) (o := 226) (ci := 11) (T := fs_T11) (N := 78) [] [fs_i r] d_Law_law_1231 ml_Law_142 k_Mo_climb v_Mo_climb rfl io_226 (fs_n2 io_226.2) rfl (fs_zokL (by decide) hk hj) rfl (Nat.le_of_ble_eq_true rfl) (fs_Call.mono (fun v M2 hv => ?_) h2)
  obtain ⟨rfl, hR2⟩ := hv
  show fs_At g (m_LawN nm) 170 fs_ZL (271, k, j) 1234 (fs_LS i) [fs_i r, fs_i r] M2 K
  exact a_icmp_eq (tgt := 1538) d_Law_law_1234 rfl (fun _ => next M2 hR2) (fun q => absurd rfl q)
set_option maxRecDepth 8000 in
set_option maxHeartbeats 4000000 in
theorem law_refusal (hR : fs_Rl M) (hi : 0 ≤ i ∧ i + 6 ≤ g_L g) (hL : g_L g ≤ 3072) (hk : k ≤ 601024) (hj : j ≤ 7293034) (next : ∀ M2, fs_Rl M2 → fs_At g (m_LawN nm) 170 fs_ZL (271, k, j) 1538 (fs_LS i) [] M2 K) : fs_At g (m_LawN nm) 170 fs_ZL (271, k, j) 1239 (fs_LS i) [] M K := by
  refine a_aload_n (j := 1) d_Law_law_1239 rfl rfl ?_
  refine l_arg (n := 1) d_Law_law_1240 d_Law_law_1241 d_Law_law_1243 d_Law_law_1244 d_Law_law_1245 (by omega) hi hL [] ?_
  refine a_invokevirtual (dc := 8) (zc := fs_Z2) (o := 0) (ci := 10) (T := fs_T10) (N := 17) [fs_i (fs_sx g (i + 1))] [] d_Law_law_1246 ml_Law_143 k_Fs_refusal v_Fs_refusal rfl io_0 (fs_n2 io_0.2) rfl (fs_zokL (by decide) hk hj) rfl (Nat.le_of_ble_eq_true rfl) (fs_Call.mono (fun v M1 hv => ?_) (op_refusal hR))
  obtain ⟨r, rfl, h2⟩ := hv
  show fs_At g (m_LawN nm) 170 fs_ZL (271, k, j) 1249 (fs_LS i) [fs_i r] M1 K
  refine a_aload_n (j := 2) d_Law_law_1249 rfl rfl ?_
  refine l_arg (n := 1) d_Law_law_1250 d_Law_law_1251 d_Law_law_1253 d_Law_law_1254 d_Law_law_1255 (by omega) hi hL [] ?_
  refine a_invokevirtual (dc := 9) (zc := fs_Z2) (o := 226) (ci := 11) (T := fs_T11) (N := 78) [fs_i (fs_sx g (i + 1))] [fs_i r] d_Law_law_1256 ml_Law_146 k_Mo_refusal v_Mo_refusal rfl io_226 (fs_n2 io_226.2) rfl (fs_zokL (by decide) hk hj) rfl (Nat.le_of_ble_eq_true rfl) (fs_Call.mono (fun v M2 hv => ?_) h2)
  obtain ⟨rfl, hR2⟩ := hv
  show fs_At g (m_LawN nm) 170 fs_ZL (271, k, j) 1259 (fs_LS i) [fs_i r, fs_i r] M2 K
  exact a_icmp_eq (tgt := 1538) d_Law_law_1259 rfl (fun _ => next M2 hR2) (fun q => absurd rfl q)
set_option maxRecDepth 8000 in
set_option maxHeartbeats 4000000 in
theorem law_track (hR : fs_Rl M) (hi : 0 ≤ i ∧ i + 6 ≤ g_L g) (hL : g_L g ≤ 3072) (hk : k ≤ 601024) (hj : j ≤ 7293034) (next : ∀ M2, fs_Rl M2 → fs_At g (m_LawN nm) 170 fs_ZL (271, k, j) 1538 (fs_LS i) [] M2 K) : fs_At g (m_LawN nm) 170 fs_ZL (271, k, j) 1264 (fs_LS i) [] M K := by
  refine a_aload_n (j := 1) d_Law_law_1264 rfl rfl ?_
  refine l_arg (n := 1) d_Law_law_1265 d_Law_law_1266 d_Law_law_1268 d_Law_law_1269 d_Law_law_1270 (by omega) hi hL [] ?_
  refine l_arg (n := 2) d_Law_law_1271 d_Law_law_1272 d_Law_law_1274 d_Law_law_1275 d_Law_law_1276 (by omega) hi hL [] ?_
  refine l_arg (n := 3) d_Law_law_1277 d_Law_law_1278 d_Law_law_1280 d_Law_law_1281 d_Law_law_1282 (by omega) hi hL [] ?_
  refine a_invokevirtual (dc := 2) (zc := fs_Z2) (o := 0) (ci := 10) (T := fs_T10) (N := 17) [fs_i (fs_sx g (i + 1)), fs_i (fs_sx g (i + 2)), fs_i (fs_sx g (i + 3))] [] d_Law_law_1283 ml_Law_147 k_Fs_track v_Fs_track rfl io_0 (fs_n2 io_0.2) rfl (fs_zokL (by decide) hk hj) rfl (Nat.le_of_ble_eq_true rfl) (fs_Call.mono (fun v M1 hv => ?_) (op_track hR))
  obtain ⟨r, rfl, h2⟩ := hv
  show fs_At g (m_LawN nm) 170 fs_ZL (271, k, j) 1286 (fs_LS i) [fs_i r] M1 K
  refine a_aload_n (j := 2) d_Law_law_1286 rfl rfl ?_
  refine l_arg (n := 1) d_Law_law_1287 d_Law_law_1288 d_Law_law_1290 d_Law_law_1291 d_Law_law_1292 (by omega) hi hL [] ?_
  refine l_arg (n := 2) d_Law_law_1293 d_Law_law_1294 d_Law_law_1296 d_Law_law_1297 d_Law_law_1298 (by omega) hi hL [] ?_
  refine l_arg (n := 3) d_Law_law_1299 d_Law_law_1300 d_Law_law_1302 d_Law_law_1303 d_Law_law_1304 (by omega) hi hL [] ?_
  refine a_invokevirtual (dc := 2) (zc := fs_Z2) (o := 226) (ci := 11) (T := fs_T11) (N := 78) [fs_i (fs_sx g (i + 1)), fs_i (fs_sx g (i + 2)), fs_i (fs_sx g (i + 3))] [fs_i r] d_Law_law_1305 ml_Law_150 k_Mo_track v_Mo_track rfl io_226 (fs_n2 io_226.2) rfl (fs_zokL (by decide) hk hj) rfl (Nat.le_of_ble_eq_true rfl) (fs_Call.mono (fun v M2 hv => ?_) h2)
  obtain ⟨rfl, hR2⟩ := hv
  show fs_At g (m_LawN nm) 170 fs_ZL (271, k, j) 1308 (fs_LS i) [fs_i r, fs_i r] M2 K
  exact a_icmp_eq (tgt := 1538) d_Law_law_1308 rfl (fun _ => next M2 hR2) (fun q => absurd rfl q)
set_option maxRecDepth 8000 in
set_option maxHeartbeats 4000000 in
theorem law_strike (hR : fs_Rl M) (hi : 0 ≤ i ∧ i + 6 ≤ g_L g) (hL : g_L g ≤ 3072) (hk : k ≤ 601024) (hj : j ≤ 7293034) (next : ∀ M2, fs_Rl M2 → fs_At g (m_LawN nm) 170 fs_ZL (271, k, j) 1538 (fs_LS i) [] M2 K) : fs_At g (m_LawN nm) 170 fs_ZL (271, k, j) 1313 (fs_LS i) [] M K := by
  refine a_aload_n (j := 1) d_Law_law_1313 rfl rfl ?_
  refine l_arg (n := 1) d_Law_law_1314 d_Law_law_1315 d_Law_law_1317 d_Law_law_1318 d_Law_law_1319 (by omega) hi hL [] ?_
  refine a_invokevirtual (dc := 2) (zc := fs_Z2) (o := 0) (ci := 10) (T := fs_T10) (N := 17) [fs_i (fs_sx g (i + 1))] [] d_Law_law_1320 ml_Law_151 k_Fs_strike v_Fs_strike rfl io_0 (fs_n2 io_0.2) rfl (fs_zokL (by decide) hk hj) rfl (Nat.le_of_ble_eq_true rfl) (fs_Call.mono (fun v M1 hv => ?_) (op_strike hR))
  obtain ⟨r, rfl, h2⟩ := hv
  show fs_At g (m_LawN nm) 170 fs_ZL (271, k, j) 1323 (fs_LS i) [fs_i r] M1 K
  refine a_aload_n (j := 2) d_Law_law_1323 rfl rfl ?_
  refine l_arg (n := 1) d_Law_law_1324 d_Law_law_1325 d_Law_law_1327 d_Law_law_1328 d_Law_law_1329 (by omega) hi hL [] ?_
  refine a_invokevirtual (dc := 1) (zc := fs_Z2) (o := 226) (ci := 11) (T := fs_T11) (N := 78) [fs_i (fs_sx g (i + 1))] [fs_i r] d_Law_law_1330 ml_Law_154 k_Mo_strike v_Mo_strike rfl io_226 (fs_n2 io_226.2) rfl (fs_zokL (by decide) hk hj) rfl (Nat.le_of_ble_eq_true rfl) (fs_Call.mono (fun v M2 hv => ?_) h2)
  obtain ⟨rfl, hR2⟩ := hv
  show fs_At g (m_LawN nm) 170 fs_ZL (271, k, j) 1333 (fs_LS i) [fs_i r, fs_i r] M2 K
  exact a_icmp_eq (tgt := 1538) d_Law_law_1333 rfl (fun _ => next M2 hR2) (fun q => absurd rfl q)
set_option maxRecDepth 8000 in
set_option maxHeartbeats 4000000 in
theorem law_known (hR : fs_Rl M) (hi : 0 ≤ i ∧ i + 6 ≤ g_L g) (hL : g_L g ≤ 3072) (hk : k ≤ 601024) (hj : j ≤ 7293034) (next : ∀ M2, fs_Rl M2 → fs_At g (m_LawN nm) 170 fs_ZL (271, k, j) 1538 (fs_LS i) [] M2 K) : fs_At g (m_LawN nm) 170 fs_ZL (271, k, j) 1338 (fs_LS i) [] M K := by
  refine a_aload_n (j := 1) d_Law_law_1338 rfl rfl ?_
  refine l_arg (n := 1) d_Law_law_1339 d_Law_law_1340 d_Law_law_1342 d_Law_law_1343 d_Law_law_1344 (by omega) hi hL [] ?_
  refine a_invokevirtual (dc := 1) (zc := fs_Z2) (o := 0) (ci := 10) (T := fs_T10) (N := 17) [fs_i (fs_sx g (i + 1))] [] d_Law_law_1345 ml_Law_155 k_Fs_known v_Fs_known rfl io_0 (fs_n2 io_0.2) rfl (fs_zokL (by decide) hk hj) rfl (Nat.le_of_ble_eq_true rfl) (fs_Call.mono (fun v M1 hv => ?_) (op_known hR))
  obtain ⟨r, rfl, h2⟩ := hv
  show fs_At g (m_LawN nm) 170 fs_ZL (271, k, j) 1348 (fs_LS i) [fs_i r] M1 K
  refine a_aload_n (j := 2) d_Law_law_1348 rfl rfl ?_
  refine l_arg (n := 1) d_Law_law_1349 d_Law_law_1350 d_Law_law_1352 d_Law_law_1353 d_Law_law_1354 (by omega) hi hL [] ?_
  refine a_invokevirtual (dc := 1) (zc := fs_Z2) (o := 226) (ci := 11) (T := fs_T11) (N := 78) [fs_i (fs_sx g (i + 1))] [fs_i r] d_Law_law_1355 ml_Law_159 k_Mo_known v_Mo_known rfl io_226 (fs_n2 io_226.2) rfl (fs_zokL (by decide) hk hj) rfl (Nat.le_of_ble_eq_true rfl) (fs_Call.mono (fun v M2 hv => ?_) h2)
  obtain ⟨rfl, hR2⟩ := hv
  show fs_At g (m_LawN nm) 170 fs_ZL (271, k, j) 1358 (fs_LS i) [fs_i r, fs_i r] M2 K
  exact a_icmp_eq (tgt := 1538) d_Law_law_1358 rfl (fun _ => next M2 hR2) (fun q => absurd rfl q)
set_option maxRecDepth 8000 in
set_option maxHeartbeats 4000000 in
theorem law_tales (hR : fs_Rl M) (hi : 0 ≤ i ∧ i + 6 ≤ g_L g) (hL : g_L g ≤ 3072) (hk : k ≤ 601024) (hj : j ≤ 7293034) (next : ∀ M2, fs_Rl M2 → fs_At g (m_LawN nm) 170 fs_ZL (271, k, j) 1538 (fs_LS i) [] M2 K) : fs_At g (m_LawN nm) 170 fs_ZL (271, k, j) 1363 (fs_LS i) [] M K := by
  refine a_aload_n (j := 1) d_Law_law_1363 rfl rfl ?_
  refine l_arg (n := 1) d_Law_law_1364 d_Law_law_1365 d_Law_law_1367 d_Law_law_1368 d_Law_law_1369 (by omega) hi hL [] ?_
  refine a_invokevirtual (dc := 20) (zc := fs_Z2) (o := 0) (ci := 10) (T := fs_T10) (N := 17) [fs_i (fs_sx g (i + 1))] [] d_Law_law_1370 ml_Law_160 k_Fs_tales v_Fs_tales rfl io_0 (fs_n2 io_0.2) rfl (fs_zokL (by decide) hk hj) rfl (Nat.le_of_ble_eq_true rfl) (fs_Call.mono (fun v M1 hv => ?_) (op_tales hR))
  obtain ⟨r, rfl, h2⟩ := hv
  show fs_At g (m_LawN nm) 170 fs_ZL (271, k, j) 1373 (fs_LS i) [fs_i r] M1 K
  refine a_aload_n (j := 2) d_Law_law_1373 rfl rfl ?_
  refine l_arg (n := 1) d_Law_law_1374 d_Law_law_1375 d_Law_law_1377 d_Law_law_1378 d_Law_law_1379 (by omega) hi hL [] ?_
  refine a_invokevirtual (dc := 22) (zc := fs_Z2) (o := 226) (ci := 11) (T := fs_T11) (N := 78) [fs_i (fs_sx g (i + 1))] [fs_i r] d_Law_law_1380 ml_Law_163 k_Mo_tales v_Mo_tales rfl io_226 (fs_n2 io_226.2) rfl (fs_zokL (by decide) hk hj) rfl (Nat.le_of_ble_eq_true rfl) (fs_Call.mono (fun v M2 hv => ?_) h2)
  obtain ⟨rfl, hR2⟩ := hv
  show fs_At g (m_LawN nm) 170 fs_ZL (271, k, j) 1383 (fs_LS i) [fs_i r, fs_i r] M2 K
  exact a_icmp_eq (tgt := 1538) d_Law_law_1383 rfl (fun _ => next M2 hR2) (fun q => absurd rfl q)
set_option maxRecDepth 8000 in
set_option maxHeartbeats 4000000 in
theorem law_tale (hR : fs_Rl M) (hi : 0 ≤ i ∧ i + 6 ≤ g_L g) (hL : g_L g ≤ 3072) (hk : k ≤ 601024) (hj : j ≤ 7293034) (next : ∀ M2, fs_Rl M2 → fs_At g (m_LawN nm) 170 fs_ZL (271, k, j) 1538 (fs_LS i) [] M2 K) : fs_At g (m_LawN nm) 170 fs_ZL (271, k, j) 1388 (fs_LS i) [] M K := by
  refine a_aload_n (j := 1) d_Law_law_1388 rfl rfl ?_
  refine l_arg (n := 1) d_Law_law_1389 d_Law_law_1390 d_Law_law_1392 d_Law_law_1393 d_Law_law_1394 (by omega) hi hL [] ?_
  refine l_arg (n := 2) d_Law_law_1395 d_Law_law_1396 d_Law_law_1398 d_Law_law_1399 d_Law_law_1400 (by omega) hi hL [] ?_
  refine l_arg (n := 3) d_Law_law_1401 d_Law_law_1402 d_Law_law_1404 d_Law_law_1405 d_Law_law_1406 (by omega) hi hL [] ?_
  refine a_invokevirtual (dc := 20) (zc := fs_Z2) (o := 0) (ci := 10) (T := fs_T10) (N := 17) [fs_i (fs_sx g (i + 1)), fs_i (fs_sx g (i + 2)), fs_i (fs_sx g (i + 3))] [] d_Law_law_1407 ml_Law_164 k_Fs_tale v_Fs_tale rfl io_0 (fs_n2 io_0.2) rfl (fs_zokL (by decide) hk hj) rfl (Nat.le_of_ble_eq_true rfl) (fs_Call.mono (fun v M1 hv => ?_) (op_tale hR))
  obtain ⟨r, rfl, h2⟩ := hv
  show fs_At g (m_LawN nm) 170 fs_ZL (271, k, j) 1410 (fs_LS i) [fs_i r] M1 K
  refine a_aload_n (j := 2) d_Law_law_1410 rfl rfl ?_
  refine l_arg (n := 1) d_Law_law_1411 d_Law_law_1412 d_Law_law_1414 d_Law_law_1415 d_Law_law_1416 (by omega) hi hL [] ?_
  refine l_arg (n := 2) d_Law_law_1417 d_Law_law_1418 d_Law_law_1420 d_Law_law_1421 d_Law_law_1422 (by omega) hi hL [] ?_
  refine l_arg (n := 3) d_Law_law_1423 d_Law_law_1424 d_Law_law_1426 d_Law_law_1427 d_Law_law_1428 (by omega) hi hL [] ?_
  refine a_invokevirtual (dc := 22) (zc := fs_Z2) (o := 226) (ci := 11) (T := fs_T11) (N := 78) [fs_i (fs_sx g (i + 1)), fs_i (fs_sx g (i + 2)), fs_i (fs_sx g (i + 3))] [fs_i r] d_Law_law_1429 ml_Law_167 k_Mo_tale v_Mo_tale rfl io_226 (fs_n2 io_226.2) rfl (fs_zokL (by decide) hk hj) rfl (Nat.le_of_ble_eq_true rfl) (fs_Call.mono (fun v M2 hv => ?_) h2)
  obtain ⟨rfl, hR2⟩ := hv
  show fs_At g (m_LawN nm) 170 fs_ZL (271, k, j) 1432 (fs_LS i) [fs_i r, fs_i r] M2 K
  exact a_icmp_eq (tgt := 1538) d_Law_law_1432 rfl (fun _ => next M2 hR2) (fun q => absurd rfl q)
set_option maxRecDepth 8000 in
set_option maxHeartbeats 4000000 in
theorem law_tried (hR : fs_Rl M) (hi : 0 ≤ i ∧ i + 6 ≤ g_L g) (hL : g_L g ≤ 3072) (hk : k ≤ 601024) (hj : j ≤ 7293034) (next : ∀ M2, fs_Rl M2 → fs_At g (m_LawN nm) 170 fs_ZL (271, k, j) 1538 (fs_LS i) [] M2 K) : fs_At g (m_LawN nm) 170 fs_ZL (271, k, j) 1437 (fs_LS i) [] M K := by
  refine a_aload_n (j := 1) d_Law_law_1437 rfl rfl ?_
  refine l_arg (n := 1) d_Law_law_1438 d_Law_law_1439 d_Law_law_1441 d_Law_law_1442 d_Law_law_1443 (by omega) hi hL [] ?_
  refine l_arg (n := 2) d_Law_law_1444 d_Law_law_1445 d_Law_law_1447 d_Law_law_1448 d_Law_law_1449 (by omega) hi hL [] ?_
  refine a_invokevirtual (dc := 8) (zc := fs_Z2) (o := 0) (ci := 10) (T := fs_T10) (N := 17) [fs_i (fs_sx g (i + 1)), fs_i (fs_sx g (i + 2))] [] d_Law_law_1450 ml_Law_168 k_Fs_tried v_Fs_tried rfl io_0 (fs_n2 io_0.2) rfl (fs_zokL (by decide) hk hj) rfl (Nat.le_of_ble_eq_true rfl) (fs_Call.mono (fun v M1 hv => ?_) (op_tried hR))
  obtain ⟨r, rfl, h2⟩ := hv
  show fs_At g (m_LawN nm) 170 fs_ZL (271, k, j) 1453 (fs_LS i) [fs_i r] M1 K
  refine a_aload_n (j := 2) d_Law_law_1453 rfl rfl ?_
  refine l_arg (n := 1) d_Law_law_1454 d_Law_law_1455 d_Law_law_1457 d_Law_law_1458 d_Law_law_1459 (by omega) hi hL [] ?_
  refine l_arg (n := 2) d_Law_law_1460 d_Law_law_1461 d_Law_law_1463 d_Law_law_1464 d_Law_law_1465 (by omega) hi hL [] ?_
  refine a_invokevirtual (dc := 9) (zc := fs_Z2) (o := 226) (ci := 11) (T := fs_T11) (N := 78) [fs_i (fs_sx g (i + 1)), fs_i (fs_sx g (i + 2))] [fs_i r] d_Law_law_1466 ml_Law_171 k_Mo_tried v_Mo_tried rfl io_226 (fs_n2 io_226.2) rfl (fs_zokL (by decide) hk hj) rfl (Nat.le_of_ble_eq_true rfl) (fs_Call.mono (fun v M2 hv => ?_) h2)
  obtain ⟨rfl, hR2⟩ := hv
  show fs_At g (m_LawN nm) 170 fs_ZL (271, k, j) 1469 (fs_LS i) [fs_i r, fs_i r] M2 K
  exact a_icmp_eq (tgt := 1538) d_Law_law_1469 rfl (fun _ => next M2 hR2) (fun q => absurd rfl q)
set_option maxRecDepth 8000 in
set_option maxHeartbeats 4000000 in
theorem law_undo (hR : fs_Rl M) (hi : 0 ≤ i ∧ i + 6 ≤ g_L g) (hL : g_L g ≤ 3072) (hk : k ≤ 601024) (hj : j ≤ 7293034) (next : ∀ M2, fs_Rl M2 → fs_At g (m_LawN nm) 170 fs_ZL (271, k, j) 1538 (fs_LS i) [] M2 K) : fs_At g (m_LawN nm) 170 fs_ZL (271, k, j) 1474 (fs_LS i) [] M K := by
  refine a_aload_n (j := 1) d_Law_law_1474 rfl rfl ?_
  refine a_invokevirtual (dc := 3) (zc := fs_Z2) (o := 0) (ci := 10) (T := fs_T10) (N := 17) [] [] d_Law_law_1475 ml_Law_172 k_Fs_undo v_Fs_undo rfl io_0 (fs_n2 io_0.2) rfl (fs_zokL (by decide) hk hj) rfl (Nat.le_of_ble_eq_true rfl) (fs_Call.mono (fun v M1 hv => ?_) (op_undo hR))
  obtain ⟨r, rfl, h2⟩ := hv
  show fs_At g (m_LawN nm) 170 fs_ZL (271, k, j) 1478 (fs_LS i) [fs_i r] M1 K
  refine a_aload_n (j := 2) d_Law_law_1478 rfl rfl ?_
  refine a_invokevirtual (dc := 2) (zc := fs_Z2) (o := 226) (ci := 11) (T := fs_T11) (N := 78) [] [fs_i r] d_Law_law_1479 ml_Law_175 k_Mo_undo v_Mo_undo rfl io_226 (fs_n2 io_226.2) rfl (fs_zokL (by decide) hk hj) rfl (Nat.le_of_ble_eq_true rfl) (fs_Call.mono (fun v M2 hv => ?_) h2)
  obtain ⟨rfl, hR2⟩ := hv
  show fs_At g (m_LawN nm) 170 fs_ZL (271, k, j) 1482 (fs_LS i) [fs_i r, fs_i r] M2 K
  exact a_icmp_eq (tgt := 1538) d_Law_law_1482 rfl (fun _ => next M2 hR2) (fun q => absurd rfl q)
set_option maxRecDepth 8000 in
set_option maxHeartbeats 4000000 in
theorem law_keep (hR : fs_Rl M) (hi : 0 ≤ i ∧ i + 6 ≤ g_L g) (hL : g_L g ≤ 3072) (hk : k ≤ 601024) (hj : j ≤ 7293034) (next : ∀ M2, fs_Rl M2 → fs_At g (m_LawN nm) 170 fs_ZL (271, k, j) 1538 (fs_LS i) [] M2 K) : fs_At g (m_LawN nm) 170 fs_ZL (271, k, j) 1487 (fs_LS i) [] M K := by
  refine a_aload_n (j := 1) d_Law_law_1487 rfl rfl ?_
  refine a_invokevirtual (dc := 9) (zc := fs_Z2) (o := 0) (ci := 10) (T := fs_T10) (N := 17) [] [] d_Law_law_1488 ml_Law_176 k_Fs_keep v_Fs_keep rfl io_0 (fs_n2 io_0.2) rfl (fs_zokL (by decide) hk hj) rfl (Nat.le_of_ble_eq_true rfl) (fs_Call.mono (fun v M1 hv => ?_) (op_keep hR))
  obtain ⟨r, rfl, h2⟩ := hv
  show fs_At g (m_LawN nm) 170 fs_ZL (271, k, j) 1491 (fs_LS i) [fs_i r] M1 K
  refine a_aload_n (j := 2) d_Law_law_1491 rfl rfl ?_
  refine a_invokevirtual (dc := 10) (zc := fs_Z2) (o := 226) (ci := 11) (T := fs_T11) (N := 78) [] [fs_i r] d_Law_law_1492 ml_Law_179 k_Mo_keep v_Mo_keep rfl io_226 (fs_n2 io_226.2) rfl (fs_zokL (by decide) hk hj) rfl (Nat.le_of_ble_eq_true rfl) (fs_Call.mono (fun v M2 hv => ?_) h2)
  obtain ⟨rfl, hR2⟩ := hv
  show fs_At g (m_LawN nm) 170 fs_ZL (271, k, j) 1495 (fs_LS i) [fs_i r, fs_i r] M2 K
  exact a_icmp_eq (tgt := 1538) d_Law_law_1495 rfl (fun _ => next M2 hR2) (fun q => absurd rfl q)
set_option maxRecDepth 8000 in
set_option maxHeartbeats 4000000 in
theorem law_back (hR : fs_Rl M) (hi : 0 ≤ i ∧ i + 6 ≤ g_L g) (hL : g_L g ≤ 3072) (hk : k ≤ 601024) (hj : j ≤ 7293034) (next : ∀ M2, fs_Rl M2 → fs_At g (m_LawN nm) 170 fs_ZL (271, k, j) 1538 (fs_LS i) [] M2 K) : fs_At g (m_LawN nm) 170 fs_ZL (271, k, j) 1500 (fs_LS i) [] M K := by
  refine a_aload_n (j := 1) d_Law_law_1500 rfl rfl ?_
  refine a_invokevirtual (dc := 9) (zc := fs_Z2) (o := 0) (ci := 10) (T := fs_T10) (N := 17) [] [] d_Law_law_1501 ml_Law_180 k_Fs_back v_Fs_back rfl io_0 (fs_n2 io_0.2) rfl (fs_zokL (by decide) hk hj) rfl (Nat.le_of_ble_eq_true rfl) (fs_Call.mono (fun v M1 hv => ?_) (op_back hR))
  obtain ⟨r, rfl, h2⟩ := hv
  show fs_At g (m_LawN nm) 170 fs_ZL (271, k, j) 1504 (fs_LS i) [fs_i r] M1 K
  refine a_aload_n (j := 2) d_Law_law_1504 rfl rfl ?_
  refine a_invokevirtual (dc := 10) (zc := fs_Z2) (o := 226) (ci := 11) (T := fs_T11) (N := 78) [] [fs_i r] d_Law_law_1505 ml_Law_183 k_Mo_back v_Mo_back rfl io_226 (fs_n2 io_226.2) rfl (fs_zokL (by decide) hk hj) rfl (Nat.le_of_ble_eq_true rfl) (fs_Call.mono (fun v M2 hv => ?_) h2)
  obtain ⟨rfl, hR2⟩ := hv
  show fs_At g (m_LawN nm) 170 fs_ZL (271, k, j) 1508 (fs_LS i) [fs_i r, fs_i r] M2 K
  exact a_icmp_eq (tgt := 1538) d_Law_law_1508 rfl (fun _ => next M2 hR2) (fun q => absurd rfl q)
set_option maxRecDepth 8000 in
set_option maxHeartbeats 4000000 in
theorem law_count (hR : fs_Rl M) (hi : 0 ≤ i ∧ i + 6 ≤ g_L g) (hL : g_L g ≤ 3072) (hk : k ≤ 601024) (hj : j ≤ 7293034) (next : ∀ M2, fs_Rl M2 → fs_At g (m_LawN nm) 170 fs_ZL (271, k, j) 1538 (fs_LS i) [] M2 K) : fs_At g (m_LawN nm) 170 fs_ZL (271, k, j) 1513 (fs_LS i) [] M K := by
  refine a_aload_n (j := 1) d_Law_law_1513 rfl rfl ?_
  refine l_arg (n := 1) d_Law_law_1514 d_Law_law_1515 d_Law_law_1517 d_Law_law_1518 d_Law_law_1519 (by omega) hi hL [] ?_
  refine a_invokevirtual (dc := 9) (zc := fs_Z2) (o := 0) (ci := 10) (T := fs_T10) (N := 17) [fs_i (fs_sx g (i + 1))] [] d_Law_law_1520 ml_Law_184 k_Fs_count v_Fs_count rfl io_0 (fs_n2 io_0.2) rfl (fs_zokL (by decide) hk hj) rfl (Nat.le_of_ble_eq_true rfl) (fs_Call.mono (fun v M1 hv => ?_) (op_count hR))
  obtain ⟨r, rfl, h2⟩ := hv
  show fs_At g (m_LawN nm) 170 fs_ZL (271, k, j) 1523 (fs_LS i) [fs_i r] M1 K
  refine a_aload_n (j := 2) d_Law_law_1523 rfl rfl ?_
  refine l_arg (n := 1) d_Law_law_1524 d_Law_law_1525 d_Law_law_1527 d_Law_law_1528 d_Law_law_1529 (by omega) hi hL [] ?_
  refine a_invokevirtual (dc := 9) (zc := fs_Z2) (o := 226) (ci := 11) (T := fs_T11) (N := 78) [fs_i (fs_sx g (i + 1))] [fs_i r] d_Law_law_1530 ml_Law_187 k_Mo_count v_Mo_count rfl io_226 (fs_n2 io_226.2) rfl (fs_zokL (by decide) hk hj) rfl (Nat.le_of_ble_eq_true rfl) (fs_Call.mono (fun v M2 hv => ?_) h2)
  obtain ⟨rfl, hR2⟩ := hv
  show fs_At g (m_LawN nm) 170 fs_ZL (271, k, j) 1533 (fs_LS i) [fs_i r, fs_i r] M2 K
  exact a_icmp_eq (tgt := 1538) d_Law_law_1533 rfl (fun _ => next M2 hR2) (fun q => absurd rfl q)
set_option maxRecDepth 8000 in
set_option maxHeartbeats 4000000 in
theorem law_look (hR : fs_Rl M) (hi : 0 ≤ i ∧ i + 6 ≤ g_L g) (hL : g_L g ≤ 3072) (hk : k + 1 ≤ 601024) (hj : j + 6 ≤ 7293034) (next : ∀ M2, fs_Rl M2 → fs_At g (m_LawN nm) 170 fs_ZL (271, k + 1, j + 6) 1538 (fs_LS i) [] M2 K) : fs_At g (m_LawN nm) 170 fs_ZL (271, k, j) 372 (fs_LS i) [] M K := by
  have b1 := hR.1.2.1
  refine a_aload_n (j := 1) d_Law_law_372 rfl rfl ?_
  refine l_arg (n := 1) d_Law_law_373 d_Law_law_374 d_Law_law_376 d_Law_law_377 d_Law_law_378 (by omega) hi hL [] ?_
  refine l_arg (n := 2) d_Law_law_379 d_Law_law_380 d_Law_law_382 d_Law_law_383 d_Law_law_384 (by omega) hi hL [] ?_
  refine a_aload_n (j := 3) d_Law_law_385 rfl rfl ?_
  refine a_lawlook (rest := []) d_Law_law_386 rfl ⟨by decide, rfl, rfl, hk, hj⟩ (by decide) b1 ?_
  obtain ⟨a, ha⟩ : ∃ a, fs_sx g (i + 1) = a := ⟨_, rfl⟩
  obtain ⟨b, hb⟩ : ∃ b, fs_sx g (i + 2) = b := ⟨_, rfl⟩
  rw [ha, hb]
  obtain ⟨M1, hM1⟩ : ∃ M1, fs_lkM M a b = M1 := ⟨_, rfl⟩
  have o1 : fs_out (fun o _ => o = 270) M M1 := by
    rw [← hM1]
    unfold fs_lkM
    split
    · exact fs_out.st fs_out.rf rfl
    · exact fs_out.rf
  have hR1 : fs_Rl M1 := hR.two o1 (fs_out.rf (F := fun o _ => o = 270)) (fun o k q => by have q2 : o = 270 := q; unfold fs_sup fs_supB fs_eC; omega) (fun o k q => by have q2 : o = 270 := q; unfold fs_sup fs_supB fs_eC; omega)
  have ex : fs_lkx M a b = fs_lkx M1 a b := by
    unfold fs_lkx
    rw [o1 1 5 (by decide)]
  have ev : fs_lkv M a b = fs_lkv M1 a b := by
    unfold fs_lkv
    rw [o1 3 a (show ¬ (3 : Int) = 270 by decide), o1 4 a (show ¬ (4 : Int) = 270 by decide), o1 5 a (show ¬ (5 : Int) = 270 by decide), o1 1 4 (by decide), o1 31 2 (by decide), o1 31 3 (by decide)]
  have e270 : fs_lkx M a b = 0 → M1 270 0 = fs_lkv M1 a b := fun q => by
    rw [← ev, ← hM1]
    unfold fs_lkM
    rw [if_pos q]
    exact fs_st_s
  rw [hM1]
  show fs_At g (m_LawN nm) 170 fs_ZL (271, k + 1, j + 6) 389 (fs_LS i) [fs_i (fs_lkx M a b)] M1 K
  rw [ex] at e270 ⊢
  refine a_istore d_Law_law_389 (Nat.le_of_ble_eq_true rfl) [1, 2, 3, 4, 5, 0] (ls' := fs_LS i ++ [(5, fs_i (fs_lkx M1 a b))]) rfl ?_
  refine a_aload_n (j := 2) d_Law_law_391 rfl rfl ?_
  refine l_arg (n := 1) d_Law_law_392 d_Law_law_393 d_Law_law_395 d_Law_law_396 d_Law_law_397 (by omega) hi hL _ ?_
  refine l_arg (n := 2) d_Law_law_398 d_Law_law_399 d_Law_law_401 d_Law_law_402 d_Law_law_403 (by omega) hi hL _ ?_
  rw [ha, hb]
  refine a_invokevirtual (dc := 2) (zc := fs_Z2) (o := 226) (ci := 11) (T := fs_T11) (N := 78) [fs_i a, fs_i b] [] d_Law_law_404 ml_Law_44 k_Mo_look v_Mo_look rfl io_226 (fs_n2 io_226.2) rfl (fs_zokL (by decide) hk hj) rfl (Nat.le_of_ble_eq_true rfl) (om_look hR1 ?_)
  obtain ⟨M2, hM2⟩ : ∃ M2, fs_st M1 226 0 (fs_lkx M1 a b) = M2 := ⟨_, rfl⟩
  have o2 : fs_out (fun o k => o = 226 ∧ k = 0) M1 M2 := by
    rw [← hM2]
    exact fs_out.st fs_out.rf ⟨rfl, rfl⟩
  have hR2 : fs_Rl M2 := hR1.two o2 (fs_out.rf (F := fun o _ => o = 270)) (fun o k q => by have q2 : o = 226 ∧ k = 0 := q; unfold fs_sup fs_supB fs_eC; omega) (fun o k q => by have q2 : o = 270 := q; unfold fs_sup fs_supB fs_eC; omega)
  have v0 : M2 226 0 = fs_lkx M1 a b := by rw [← hM2]; exact fs_st_s
  have v270 : M2 270 0 = M1 270 0 := o2 270 0 (by decide)
  rw [hM2]
  obtain ⟨X, hX⟩ : ∃ X, fs_lkx M1 a b = X := ⟨_, rfl⟩
  rw [hX] at e270 v0 ⊢
  obtain ⟨V, hV⟩ : ∃ V, (if X = 0 then fs_lkv M1 a b else 0) = V := ⟨_, rfl⟩
  rw [hV]
  show fs_At g (m_LawN nm) 170 fs_ZL (271, k + 1, j + 6) 407 (fs_LS i ++ [(5, fs_i X)]) [fs_i V] M2 K
  refine a_istore d_Law_law_407 (Nat.le_of_ble_eq_true rfl) [1, 2, 3, 4, 5, 6, 0] (ls' := fs_LS i ++ [(5, fs_i X), (6, fs_i V)]) rfl ?_
  refine a_aload_n (j := 2) d_Law_law_409 rfl rfl ?_
  refine a_invokevirtual (dc := 1) (zc := fs_Z2) (o := 226) (ci := 11) (T := fs_T11) (N := 78) [] [] d_Law_law_410 ml_Law_45 k_Mo_thrown v_Mo_thrown rfl io_226 (fs_n2 io_226.2) rfl (fs_zokL (by decide) hk hj) rfl (Nat.le_of_ble_eq_true rfl) (E_Mo_thrown ?_)
  rw [v0]
  show fs_At g (m_LawN nm) 170 fs_ZL (271, k + 1, j + 6) 413 (fs_LS i ++ [(5, fs_i X), (6, fs_i V)]) [fs_i X] M2 K
  refine a_iload (j := 5) d_Law_law_413 rfl ?_
  refine a_icmp_eq (tgt := 420) d_Law_law_415 rfl (fun _ => ?_) (fun q => absurd rfl q)
  refine a_iload (j := 5) d_Law_law_420 rfl ?_
  refine a_if_ne (tgt := 437) d_Law_law_422 rfl (fun _ => ?_) (fun x0 => ?_)
  · refine a_goto (tgt := 1538) d_Law_law_437 rfl ?_
    exact a_sub (ls' := fs_LS i) [0, 1, 2, 3, 4] rfl (next M2 hR2)
  · rw [if_pos x0] at hV
    have e9 : M2 270 0 = V := by rw [v270, e270 x0]; exact hV
    refine a_aload_n (j := 3) d_Law_law_425 rfl rfl ?_
    refine a_iconst d_Law_law_426 (by unfold fs_in32; omega) ?_
    refine a_laload d_Law_law_427 ia_270 (fs_n2 ia_270.2) (by decide) (by decide) ?_
    rw [e9]
    refine a_iload (j := 6) d_Law_law_428 rfl ?_
    refine a_i2l d_Law_law_430 ?_
    refine a_lcmp d_Law_law_431 ?_
    refine a_if_eq (tgt := 437) d_Law_law_432 rfl (fun _ => ?_) (fun q => absurd (show fs_lcmp V V = 0 by unfold fs_lcmp; rw [if_neg (by omega), if_pos rfl]) q)
    refine a_goto (tgt := 1538) d_Law_law_437 rfl ?_
    exact a_sub (ls' := fs_LS i) [0, 1, 2, 3, 4] rfl (next M2 hR2)
set_option maxRecDepth 8000 in
set_option maxHeartbeats 4000000 in
theorem law_loop (hL : g_L g ≤ 3072) (hK : ∀ M, K (some (fs_i 1)) M) : ∀ (n : Nat) (i : Int) (M : fs_M) (k j : Nat), 0 ≤ i → (g_L g : Int) < i + 6 * n + 6 → fs_Rl M → k + n ≤ 601024 → j + 6 * n ≤ 7293034 → fs_At g (m_LawN nm) 170 fs_ZL (271, k, j) 23 (fs_LS i) [] M K := by
  intro n
  induction n with
  | zero =>
    intro i M k j i0 hn hR hk hj
    refine a_inv (fun hI hlo hok => ?_)
    have i32 : fs_in32 i := hlo (4, fs_i i) (by simp)
    refine a_iload (j := 4) d_Law_law_23 rfl ?_
    refine a_aload_n (j := 0) d_Law_law_25 rfl rfl ?_
    refine a_slen d_Law_law_26 hL ?_
    refine a_bipush d_Law_law_27 (by decide) ?_
    refine a_isub d_Law_law_29 ?_
    rw [fs_w32_of (x := (g_L g : Int) - 6) (by omega) (by omega)]
    refine a_icmp_gt (tgt := 1544) d_Law_law_30 rfl (fun _ => ?_) (fun q => absurd (by omega) q)
    refine a_iconst d_Law_law_1544 (by unfold fs_in32; omega) ?_
    refine a_sub (ls' := []) [] rfl ?_
    exact a_ireturn d_Law_law_1545 rfl (fs_nar01 (Or.inr rfl)) ⟨rfl, (by omega : k ≤ 601024), (by omega : j ≤ 7293034)⟩ (hK M)
  | succ n ih =>
    intro i M k j i0 hn hR hk hj
    refine a_iload (j := 4) d_Law_law_23 rfl ?_
    refine a_aload_n (j := 0) d_Law_law_25 rfl rfl ?_
    refine a_slen d_Law_law_26 hL ?_
    refine a_bipush d_Law_law_27 (by decide) ?_
    refine a_isub d_Law_law_29 ?_
    rw [fs_w32_of (x := (g_L g : Int) - 6) (by omega) (by omega)]
    refine a_icmp_gt (tgt := 1544) d_Law_law_30 rfl (fun _ => ?_) (fun q => ?_)
    · refine a_iconst d_Law_law_1544 (by unfold fs_in32; omega) ?_
      refine a_sub (ls' := []) [] rfl ?_
      exact a_ireturn d_Law_law_1545 rfl (fs_nar01 (Or.inr rfl)) ⟨rfl, (by omega : k ≤ 601024), (by omega : j ≤ 7293034)⟩ (hK M)
    have hi : 0 ≤ i ∧ i + 6 ≤ g_L g := ⟨i0, by omega⟩
    have next : ∀ (M2 : fs_M) (k2 j2 : Nat), k2 + n ≤ 601024 → j2 + 6 * n ≤ 7293034 → fs_Rl M2 → fs_At g (m_LawN nm) 170 fs_ZL (271, k2, j2) 1538 (fs_LS i) [] M2 K := by
      intro M2 k2 j2 hk2 hj2 hR2
      refine a_iinc (j := 4) d_Law_law_1538 rfl (Nat.le_of_ble_eq_true rfl) [1, 2, 3, 4, 0] (ls' := [(0, fs_r 3000), (1, fs_r 0), (2, fs_r 226), (3, fs_r 270), (4, fs_i (fs_w32 (i + 6)))]) rfl ?_
      rw [fs_w32_of (x := i + 6) (by omega) (by omega)]
      refine a_goto (tgt := 23) d_Law_law_1541 rfl ?_
      exact ih (i + 6) M2 k2 j2 (by omega) (by omega) hR2 hk2 hj2
    have next0 : ∀ M2, fs_Rl M2 → fs_At g (m_LawN nm) 170 fs_ZL (271, k, j) 1538 (fs_LS i) [] M2 K := fun M2 h2 => next M2 k j (by omega) (by omega) h2
    have next1 : ∀ M2, fs_Rl M2 → fs_At g (m_LawN nm) 170 fs_ZL (271, k + 1, j + 6) 1538 (fs_LS i) [] M2 K := fun M2 h2 => next M2 (k + 1) (j + 6) (by omega) (by omega) h2
    refine a_aload_n (j := 0) d_Law_law_33 rfl rfl ?_
    refine a_iload (j := 4) d_Law_law_34 rfl ?_
    refine a_sload d_Law_law_36 i0 (by omega) ?_
    refine a_bipush d_Law_law_37 (by decide) ?_
    refine a_iand d_Law_law_39 ?_
    obtain ⟨v, hv⟩ : ∃ v, fs_and (g_xs g i.toNat).toInt 63 = v := ⟨_, rfl⟩
    rw [hv]
    have hk0 : k ≤ 601024 := by omega
    have hj0 : j ≤ 7293034 := by omega
    by_cases q0 : v = 0
    · exact a_tableIn (tgt := 212) d_Law_law_40 (by omega) (by omega) (by rw [q0]; rfl) rfl (law_feed hR hi hL hk0 hj0 next0)
    by_cases q1 : v = 1
    · exact a_tableIn (tgt := 285) d_Law_law_40 (by omega) (by omega) (by rw [q1]; rfl) rfl (law_text hR hi hL hk0 hj0 next0)
    by_cases q2 : v = 2
    · exact a_tableIn (tgt := 310) d_Law_law_40 (by omega) (by omega) (by rw [q2]; rfl) rfl (law_fault hR hi hL hk0 hj0 next0)
    by_cases q3 : v = 3
    · exact a_tableIn (tgt := 335) d_Law_law_40 (by omega) (by omega) (by rw [q3]; rfl) rfl (law_named hR hi hL hk0 hj0 next0)
    by_cases q4 : v = 4
    · exact a_tableIn (tgt := 372) d_Law_law_40 (by omega) (by omega) (by rw [q4]; rfl) rfl (law_look hR hi hL (by omega) (by omega) next1)
    by_cases q5 : v = 5
    · exact a_tableIn (tgt := 440) d_Law_law_40 (by omega) (by omega) (by rw [q5]; rfl) rfl (law_dark hR hi hL hk0 hj0 next0)
    by_cases q6 : v = 6
    · exact a_tableIn (tgt := 477) d_Law_law_40 (by omega) (by omega) (by rw [q6]; rfl) rfl (law_walk hR hi hL hk0 hj0 next0)
    by_cases q7 : v = 7
    · exact a_tableIn (tgt := 550) d_Law_law_40 (by omega) (by omega) (by rw [q7]; rfl) rfl (law_stays hR hi hL hk0 hj0 next0)
    by_cases q8 : v = 8
    · exact a_tableIn (tgt := 623) d_Law_law_40 (by omega) (by omega) (by rw [q8]; rfl) rfl (law_cat hR hi hL hk0 hj0 next0)
    by_cases q9 : v = 9
    · exact a_tableIn (tgt := 660) d_Law_law_40 (by omega) (by omega) (by rw [q9]; rfl) rfl (law_send hR hi hL hk0 hj0 next0)
    by_cases q10 : v = 10
    · exact a_tableIn (tgt := 697) d_Law_law_40 (by omega) (by omega) (by rw [q10]; rfl) rfl (law_drop hR hi hL hk0 hj0 next0)
    by_cases q11 : v = 11
    · exact a_tableIn (tgt := 722) d_Law_law_40 (by omega) (by omega) (by rw [q11]; rfl) rfl (law_glass hR hi hL hk0 hj0 next0)
    by_cases q12 : v = 12
    · exact a_tableIn (tgt := 775) d_Law_law_40 (by omega) (by omega) (by rw [q12]; rfl) rfl (law_out hR hi hL hk0 hj0 next0)
    by_cases q13 : v = 13
    · exact a_tableIn (tgt := 828) d_Law_law_40 (by omega) (by omega) (by rw [q13]; rfl) rfl (law_done hR hi hL hk0 hj0 next0)
    by_cases q14 : v = 14
    · exact a_tableIn (tgt := 865) d_Law_law_40 (by omega) (by omega) (by rw [q14]; rfl) rfl (law_where hR hi hL hk0 hj0 next0)
    by_cases q15 : v = 15
    · exact a_tableIn (tgt := 902) d_Law_law_40 (by omega) (by omega) (by rw [q15]; rfl) rfl (law_gain hR hi hL hk0 hj0 next0)
    by_cases q16 : v = 16
    · exact a_tableIn (tgt := 915) d_Law_law_40 (by omega) (by omega) (by rw [q16]; rfl) rfl (law_night hR hi hL hk0 hj0 next0)
    by_cases q17 : v = 17
    · exact a_tableIn (tgt := 928) d_Law_law_40 (by omega) (by omega) (by rw [q17]; rfl) rfl (law_was hR hi hL hk0 hj0 next0)
    by_cases q18 : v = 18
    · exact a_tableIn (tgt := 965) d_Law_law_40 (by omega) (by omega) (by rw [q18]; rfl) rfl (law_chance hR hi hL hk0 hj0 next0)
    by_cases q19 : v = 19
    · exact a_tableIn (tgt := 1002) d_Law_law_40 (by omega) (by omega) (by rw [q19]; rfl) rfl (law_best hR hi hL hk0 hj0 next0)
    by_cases q20 : v = 20
    · exact a_tableIn (tgt := 1027) d_Law_law_40 (by omega) (by omega) (by rw [q20]; rfl) rfl (law_chosen hR hi hL hk0 hj0 next0)
    by_cases q21 : v = 21
    · exact a_tableIn (tgt := 1076) d_Law_law_40 (by omega) (by omega) (by rw [q21]; rfl) rfl (law_many hR hi hL hk0 hj0 next0)
    by_cases q22 : v = 22
    · exact a_tableIn (tgt := 1089) d_Law_law_40 (by omega) (by omega) (by rw [q22]; rfl) rfl (law_price hR hi hL hk0 hj0 next0)
    by_cases q23 : v = 23
    · exact a_tableIn (tgt := 1114) d_Law_law_40 (by omega) (by omega) (by rw [q23]; rfl) rfl (law_all hR hi hL hk0 hj0 next0)
    by_cases q24 : v = 24
    · exact a_tableIn (tgt := 1139) d_Law_law_40 (by omega) (by omega) (by rw [q24]; rfl) rfl (law_after hR hi hL hk0 hj0 next0)
    by_cases q25 : v = 25
    · exact a_tableIn (tgt := 1176) d_Law_law_40 (by omega) (by omega) (by rw [q25]; rfl) rfl (law_which hR hi hL hk0 hj0 next0)
    by_cases q26 : v = 26
    · exact a_tableIn (tgt := 1201) d_Law_law_40 (by omega) (by omega) (by rw [q26]; rfl) rfl (law_exchange hR hi hL hk0 hj0 next0)
    by_cases q27 : v = 27
    · exact a_tableIn (tgt := 1226) d_Law_law_40 (by omega) (by omega) (by rw [q27]; rfl) rfl (law_climb hR hi hL hk0 hj0 next0)
    by_cases q28 : v = 28
    · exact a_tableIn (tgt := 1239) d_Law_law_40 (by omega) (by omega) (by rw [q28]; rfl) rfl (law_refusal hR hi hL hk0 hj0 next0)
    by_cases q29 : v = 29
    · exact a_tableIn (tgt := 1264) d_Law_law_40 (by omega) (by omega) (by rw [q29]; rfl) rfl (law_track hR hi hL hk0 hj0 next0)
    by_cases q30 : v = 30
    · exact a_tableIn (tgt := 1313) d_Law_law_40 (by omega) (by omega) (by rw [q30]; rfl) rfl (law_strike hR hi hL hk0 hj0 next0)
    by_cases q31 : v = 31
    · exact a_tableIn (tgt := 1338) d_Law_law_40 (by omega) (by omega) (by rw [q31]; rfl) rfl (law_known hR hi hL hk0 hj0 next0)
    by_cases q32 : v = 32
    · exact a_tableIn (tgt := 1363) d_Law_law_40 (by omega) (by omega) (by rw [q32]; rfl) rfl (law_tales hR hi hL hk0 hj0 next0)
    by_cases q33 : v = 33
    · exact a_tableIn (tgt := 1388) d_Law_law_40 (by omega) (by omega) (by rw [q33]; rfl) rfl (law_tale hR hi hL hk0 hj0 next0)
    by_cases q34 : v = 34
    · exact a_tableIn (tgt := 1437) d_Law_law_40 (by omega) (by omega) (by rw [q34]; rfl) rfl (law_tried hR hi hL hk0 hj0 next0)
    by_cases q35 : v = 35
    · exact a_tableIn (tgt := 1474) d_Law_law_40 (by omega) (by omega) (by rw [q35]; rfl) rfl (law_undo hR hi hL hk0 hj0 next0)
    by_cases q36 : v = 36
    · exact a_tableIn (tgt := 1487) d_Law_law_40 (by omega) (by omega) (by rw [q36]; rfl) rfl (law_keep hR hi hL hk0 hj0 next0)
    by_cases q37 : v = 37
    · exact a_tableIn (tgt := 1500) d_Law_law_40 (by omega) (by omega) (by rw [q37]; rfl) rfl (law_back hR hi hL hk0 hj0 next0)
    by_cases q38 : v = 38
    · exact a_tableIn (tgt := 1513) d_Law_law_40 (by omega) (by omega) (by rw [q38]; rfl) rfl (law_count hR hi hL hk0 hj0 next0)
    exact a_tableOut (tgt := 1538) d_Law_law_40 (by omega) rfl (next0 M hR)
end LAWOPS
