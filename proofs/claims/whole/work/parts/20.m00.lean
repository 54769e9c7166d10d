abbrev wd_mo_mo2_mo3_mo4_mo5_mo6_mo7_mo8_mo11_mo16 (cI cB : ClassId) (a_mo a_mo2 a_mo3 a_mo4 a_mo5 a_mo6 a_mo7 a_mo8 a_mo11 a_mo16 : Nat) (ma : Int32) (md : Int32) (mq : Int32) (mz : Int32) (msz : Int32) (mat : Int32) (mpl : Int32) (mfa : Int32) (mth : Int32) (mpic : (Nat → Int32)) (mgiv : (Nat → Int32)) (mkep : (Nat → Int32)) (mmod : (Nat → Int32)) (mcoe : (Nat → Int32)) (mnmo : (Nat → Int32)) (mnco : (Nat → Int32)) (mby : (Nat → Int32)) (mwk : (Nat → Int32)) : va_W := [(a_mo, .inr (10, [.int ma, .int md, .ref a_mo2, .ref a_mo3, .ref a_mo4, .ref a_mo5, .ref a_mo6, .ref a_mo7, .ref a_mo8, .int mq, .int mz, .ref a_mo11, .int msz, .int mat, .int mpl, .int mfa, .ref a_mo16, .int mth])), (a_mo2, .inl (cI, 1024, .inl mpic)), (a_mo3, .inl (cI, 1024, .inl mgiv)), (a_mo4, .inl (cI, 1024, .inl mkep)), (a_mo5, .inl (cI, 64, .inl mmod)), (a_mo6, .inl (cI, 1024, .inl mcoe)), (a_mo7, .inl (cI, 64, .inl mnmo)), (a_mo8, .inl (cI, 1024, .inl mnco)), (a_mo11, .inl (cI, 8000, .inl mby)), (a_mo16, .inl (cI, 16, .inl mwk))]
def wp_X10_thrown (mth : Int32) (K : Int32 → Prop) : Prop := K mth
abbrev jw_X10_thrown : List Cond := .code yX10_thrown cX10_thrown 1 (some .int) :: jmAll
abbrev rmX10_thrown : Room := { frames := 0, cells := 0, slots := 0, locals := 0 }
set_option maxHeartbeats 4000000 in
set_option maxRecDepth 100000 in
theorem c_X10_thrown (l : Launch) (D : va_G) (cI cB : ClassId) (tt : Nat × Nat × Nat) (a_mo a_mo2 a_mo3 a_mo4 a_mo5 a_mo6 a_mo7 a_mo8 a_mo11 a_mo16 : Nat) (sz : Nat) (ma : Int32) (md : Int32) (mq : Int32) (mz : Int32) (msz : Int32) (mat : Int32) (mpl : Int32) (mfa : Int32) (mth : Int32) (mpic : (Nat → Int32)) (mgiv : (Nat → Int32)) (mkep : (Nat → Int32)) (mmod : (Nat → Int32)) (mcoe : (Nat → Int32)) (mnmo : (Nat → Int32)) (mnco : (Nat → Int32)) (mby : (Nat → Int32)) (mwk : (Nat → Int32)) {K : Int32 → Prop} (h : wp_X10_thrown mth K) : Met l yX10_thrown jw_X10_thrown rmX10_thrown (va_Pc [.ref a_mo] (jm_Pre D cI cB tt (wd_mo_mo2_mo3_mo4_mo5_mo6_mo7_mo8_mo11_mo16 cI cB a_mo a_mo2 a_mo3 a_mo4 a_mo5 a_mo6 a_mo7 a_mo8 a_mo11 a_mo16 ma md mq mz msz mat mpl mfa mth mpic mgiv mkep mmod mcoe mnmo mnco mby mwk) sz)) (va_Qi (fun (r : Int32) (u : Unit) => K r) (jm_Post D cI cB (wd_mo_mo2_mo3_mo4_mo5_mo6_mo7_mo8_mo11_mo16 cI cB a_mo a_mo2 a_mo3 a_mo4 a_mo5 a_mo6 a_mo7 a_mo8 a_mo11 a_mo16 ma md mq mz msz mat mpl mfa mth mpic mgiv mkep mmod mcoe mnmo mnco mby mwk) sz (fun (u : Unit) => wd_mo_mo2_mo3_mo4_mo5_mo6_mo7_mo8_mo11_mo16 cI cB a_mo a_mo2 a_mo3 a_mo4 a_mo5 a_mo6 a_mo7 a_mo8 a_mo11 a_mo16 ma md mq mz msz mat mpl mfa mth mpic mgiv mkep mmod mcoe mnmo mnco mby mwk)) (va_A (wd_mo_mo2_mo3_mo4_mo5_mo6_mo7_mo8_mo11_mo16 cI cB a_mo a_mo2 a_mo3 a_mo4 a_mo5 a_mo6 a_mo7 a_mo8 a_mo11 a_mo16 ma md mq mz msz mat mpl mfa mth mpic mgiv mkep mmod mcoe mnmo mnco mby mwk) sz)) 0 0 (va_A (wd_mo_mo2_mo3_mo4_mo5_mo6_mo7_mo8_mo11_mo16 cI cB a_mo a_mo2 a_mo3 a_mo4 a_mo5 a_mo6 a_mo7 a_mo8 a_mo11 a_mo16 ma md mq mz msz mat mpl mfa mth mpic mgiv mkep mmod mcoe mnmo mnco mby mwk) sz) := by
  refine jm_metI (by decide +kernel) rfl rfl (Nat.le_of_ble_eq_true rfl) ?_
  intro p e s m args below meth c A Q ls C0 hP hD hl hret
  obtain ⟨hx, hb, hml, hr, hown, hts, hlocks, hA, hK, hE⟩ := C0
  have hS : va_S A s.heap s.heap [] := va_S.rf
  have hl : lv_has ls 1 [(0, .ref a_mo)] := hl
  unfold wp_X10_thrown at h
  have hP : va_P D vwCl [(a_mo, .inr (10, [.int ma, .int md, .ref a_mo2, .ref a_mo3, .ref a_mo4, .ref a_mo5, .ref a_mo6, .ref a_mo7, .ref a_mo8, .int mq, .int mz, .ref a_mo11, .int msz, .int mat, .int mpl, .int mfa, .ref a_mo16, .int mth])), (a_mo2, .inl (cI, 1024, .inl mpic)), (a_mo3, .inl (cI, 1024, .inl mgiv)), (a_mo4, .inl (cI, 1024, .inl mkep)), (a_mo5, .inl (cI, 64, .inl mmod)), (a_mo6, .inl (cI, 1024, .inl mcoe)), (a_mo7, .inl (cI, 64, .inl mnmo)), (a_mo8, .inl (cI, 1024, .inl mnco)), (a_mo11, .inl (cI, 8000, .inl mby)), (a_mo16, .inl (cI, 16, .inl mwk))] s.heap := hP
  have hD : va_D A [(a_mo, .inr (10, [.int ma, .int md, .ref a_mo2, .ref a_mo3, .ref a_mo4, .ref a_mo5, .ref a_mo6, .ref a_mo7, .ref a_mo8, .int mq, .int mz, .ref a_mo11, .int msz, .int mat, .int mpl, .int mfa, .ref a_mo16, .int mth])), (a_mo2, .inl (cI, 1024, .inl mpic)), (a_mo3, .inl (cI, 1024, .inl mgiv)), (a_mo4, .inl (cI, 1024, .inl mkep)), (a_mo5, .inl (cI, 64, .inl mmod)), (a_mo6, .inl (cI, 1024, .inl mcoe)), (a_mo7, .inl (cI, 64, .inl mnmo)), (a_mo8, .inl (cI, 1024, .inl mnco)), (a_mo11, .inl (cI, 8000, .inl mby)), (a_mo16, .inl (cI, 16, .inl mwk))] := hD
  have iX10 : ∀ w ∈ wsX100, w ∈ jw_X10_thrown := fun w h => List.mem_cons_of_mem _ (jm_iX10 w h)
  have lk47 := hts (.fieldLink RX10 47 "IntraMillModel" "thrown" "I") (List.mem_cons_of_mem _ mw_751)
  refine lv_aload_n hx hb dX10_thrown_0 rfl (lv_at hl 0 rfl) ?_
  refine va_get (D := D) (ci := 10) (v := .int mth) (C := RX10) (T := TX10) (N := 18) hx hb hts iX10 hown hK hP 0 rfl rfl 17 (by decide) lk47 (fun _ h9 => h9) rfl dX10_thrown_1 ?_
  exact hret mth () _ _ _ _ dX10_thrown_4 (vp_nar_int _) h hP hD hS
def wp_X10_fails (mth : Int32) (v1 v2 : Int32) (K : Int32 → Int32 → Prop) : Prop := jn1 (fun (t0_1 : Int32) => jz v1 ∧ K v1 t0_1) (fun J_1 => ((v1 = 0 → J_1 0) ∧ (¬ v1 = 0 → J_1 v2)))
abbrev jw_X10_fails : List Cond := .code yX10_fails cX10_fails 3 (some .boolean) :: jmAll
abbrev rmX10_fails : Room := { frames := 0, cells := 0, slots := 0, locals := 0 }
set_option maxHeartbeats 4000000 in
set_option maxRecDepth 100000 in
theorem c_X10_fails (l : Launch) (D : va_G) (cI cB : ClassId) (tt : Nat × Nat × Nat) (a_mo a_mo2 a_mo3 a_mo4 a_mo5 a_mo6 a_mo7 a_mo8 a_mo11 a_mo16 : Nat) (sz : Nat) (ma : Int32) (md : Int32) (mq : Int32) (mz : Int32) (msz : Int32) (mat : Int32) (mpl : Int32) (mfa : Int32) (mth : Int32) (mpic : (Nat → Int32)) (mgiv : (Nat → Int32)) (mkep : (Nat → Int32)) (mmod : (Nat → Int32)) (mcoe : (Nat → Int32)) (mnmo : (Nat → Int32)) (mnco : (Nat → Int32)) (mby : (Nat → Int32)) (mwk : (Nat → Int32)) (v1 v2 : Int32) {K : Int32 → Int32 → Prop} (h : wp_X10_fails mth v1 v2 K) : Met l yX10_fails jw_X10_fails rmX10_fails (va_Pc [.ref a_mo, .int v1, .int v2] (jm_Pre D cI cB tt (wd_mo_mo2_mo3_mo4_mo5_mo6_mo7_mo8_mo11_mo16 cI cB a_mo a_mo2 a_mo3 a_mo4 a_mo5 a_mo6 a_mo7 a_mo8 a_mo11 a_mo16 ma md mq mz msz mat mpl mfa mth mpic mgiv mkep mmod mcoe mnmo mnco mby mwk) sz)) (va_Qi (fun (r : Int32) (u : Int32) => K r u) (jm_Post D cI cB (wd_mo_mo2_mo3_mo4_mo5_mo6_mo7_mo8_mo11_mo16 cI cB a_mo a_mo2 a_mo3 a_mo4 a_mo5 a_mo6 a_mo7 a_mo8 a_mo11 a_mo16 ma md mq mz msz mat mpl mfa mth mpic mgiv mkep mmod mcoe mnmo mnco mby mwk) sz (fun (u : Int32) => wd_mo_mo2_mo3_mo4_mo5_mo6_mo7_mo8_mo11_mo16 cI cB a_mo a_mo2 a_mo3 a_mo4 a_mo5 a_mo6 a_mo7 a_mo8 a_mo11 a_mo16 ma md mq mz msz mat mpl mfa u mpic mgiv mkep mmod mcoe mnmo mnco mby mwk)) (va_A (wd_mo_mo2_mo3_mo4_mo5_mo6_mo7_mo8_mo11_mo16 cI cB a_mo a_mo2 a_mo3 a_mo4 a_mo5 a_mo6 a_mo7 a_mo8 a_mo11 a_mo16 ma md mq mz msz mat mpl mfa mth mpic mgiv mkep mmod mcoe mnmo mnco mby mwk) sz)) 0 0 (va_A (wd_mo_mo2_mo3_mo4_mo5_mo6_mo7_mo8_mo11_mo16 cI cB a_mo a_mo2 a_mo3 a_mo4 a_mo5 a_mo6 a_mo7 a_mo8 a_mo11 a_mo16 ma md mq mz msz mat mpl mfa mth mpic mgiv mkep mmod mcoe mnmo mnco mby mwk) sz) := by
  refine jm_metI (by decide +kernel) rfl rfl (Nat.le_of_ble_eq_true rfl) ?_
  intro p e s m args below meth c A Q ls C0 hP hD hl hret
  obtain ⟨hx, hb, hml, hr, hown, hts, hlocks, hA, hK, hE⟩ := C0
  have hS : va_S A s.heap s.heap [] := va_S.rf
  have hl : lv_has ls 3 [(0, .ref a_mo), (1, .int v1), (2, .int v2)] := hl
  unfold wp_X10_fails at h
  have hP : va_P D vwCl [(a_mo, .inr (10, [.int ma, .int md, .ref a_mo2, .ref a_mo3, .ref a_mo4, .ref a_mo5, .ref a_mo6, .ref a_mo7, .ref a_mo8, .int mq, .int mz, .ref a_mo11, .int msz, .int mat, .int mpl, .int mfa, .ref a_mo16, .int mth])), (a_mo2, .inl (cI, 1024, .inl mpic)), (a_mo3, .inl (cI, 1024, .inl mgiv)), (a_mo4, .inl (cI, 1024, .inl mkep)), (a_mo5, .inl (cI, 64, .inl mmod)), (a_mo6, .inl (cI, 1024, .inl mcoe)), (a_mo7, .inl (cI, 64, .inl mnmo)), (a_mo8, .inl (cI, 1024, .inl mnco)), (a_mo11, .inl (cI, 8000, .inl mby)), (a_mo16, .inl (cI, 16, .inl mwk))] s.heap := hP
  have hD : va_D A [(a_mo, .inr (10, [.int ma, .int md, .ref a_mo2, .ref a_mo3, .ref a_mo4, .ref a_mo5, .ref a_mo6, .ref a_mo7, .ref a_mo8, .int mq, .int mz, .ref a_mo11, .int msz, .int mat, .int mpl, .int mfa, .ref a_mo16, .int mth])), (a_mo2, .inl (cI, 1024, .inl mpic)), (a_mo3, .inl (cI, 1024, .inl mgiv)), (a_mo4, .inl (cI, 1024, .inl mkep)), (a_mo5, .inl (cI, 64, .inl mmod)), (a_mo6, .inl (cI, 1024, .inl mcoe)), (a_mo7, .inl (cI, 64, .inl mnmo)), (a_mo8, .inl (cI, 1024, .inl mnco)), (a_mo11, .inl (cI, 8000, .inl mby)), (a_mo16, .inl (cI, 16, .inl mwk))] := hD
  have iX10 : ∀ w ∈ wsX100, w ∈ jw_X10_fails := fun w h => List.mem_cons_of_mem _ (jm_iX10 w h)
  have lk47 := hts (.fieldLink RX10 47 "IntraMillModel" "thrown" "I") (List.mem_cons_of_mem _ mw_751)
  refine lv_aload_n hx hb dX10_fails_0 rfl (lv_at hl 0 rfl) ?_
  refine lv_iload_n hx hb dX10_fails_1 rfl (lv_at hl 1 rfl) ?_
  obtain ⟨J_1, hj_1, h⟩ := jn1_out h
  have hJ_1 : ∀ (t0_1 : Int32), ∀ (H : Heap) (locs : List Loc) (ls : Array Slot), J_1 t0_1 → va_P D vwCl [(a_mo, .inr (10, [.int ma, .int md, .ref a_mo2, .ref a_mo3, .ref a_mo4, .ref a_mo5, .ref a_mo6, .ref a_mo7, .ref a_mo8, .int mq, .int mz, .ref a_mo11, .int msz, .int mat, .int mpl, .int mfa, .ref a_mo16, .int mth])), (a_mo2, .inl (cI, 1024, .inl mpic)), (a_mo3, .inl (cI, 1024, .inl mgiv)), (a_mo4, .inl (cI, 1024, .inl mkep)), (a_mo5, .inl (cI, 64, .inl mmod)), (a_mo6, .inl (cI, 1024, .inl mcoe)), (a_mo7, .inl (cI, 64, .inl mnmo)), (a_mo8, .inl (cI, 1024, .inl mnco)), (a_mo11, .inl (cI, 8000, .inl mby)), (a_mo16, .inl (cI, 16, .inl mwk))] H → va_D A [(a_mo, .inr (10, [.int ma, .int md, .ref a_mo2, .ref a_mo3, .ref a_mo4, .ref a_mo5, .ref a_mo6, .ref a_mo7, .ref a_mo8, .int mq, .int mz, .ref a_mo11, .int msz, .int mat, .int mpl, .int mfa, .ref a_mo16, .int mth])), (a_mo2, .inl (cI, 1024, .inl mpic)), (a_mo3, .inl (cI, 1024, .inl mgiv)), (a_mo4, .inl (cI, 1024, .inl mkep)), (a_mo5, .inl (cI, 64, .inl mmod)), (a_mo6, .inl (cI, 1024, .inl mcoe)), (a_mo7, .inl (cI, 64, .inl mnmo)), (a_mo8, .inl (cI, 1024, .inl mnco)), (a_mo11, .inl (cI, 8000, .inl mby)), (a_mo16, .inl (cI, 16, .inl mwk))] → va_S A s.heap H locs → lv_has ls 3 [(0, .ref a_mo), (1, .int v1), (2, .int v2)] → W p l e rmX10_fails s m args below meth c H locs 0 0 Q (F0 m 10 ls [.int t0_1, .ref a_mo]) := by
    intro t0_1 H locs ls h hP hD hS hl
    have h := hj_1 t0_1 h
    refine va_put (D := D) (ci := 10) (v := .int t0_1) (ty := .int) (C := RX10) (T := TX10) (N := 18) hx hb hts iX10 tyX10 tyX10_ok nmX10 hown hK hP hD hS 0 rfl rfl 17 (by decide) lk47 (fun _ h9 => h9) rfl (by decide +kernel) rfl rfl (Nat.le_of_ble_eq_true rfl) dX10_fails_10 (fun H_2 locs hP hD hS => ?_)
    have hP : va_P D vwCl [(a_mo, .inr (10, [.int ma, .int md, .ref a_mo2, .ref a_mo3, .ref a_mo4, .ref a_mo5, .ref a_mo6, .ref a_mo7, .ref a_mo8, .int mq, .int mz, .ref a_mo11, .int msz, .int mat, .int mpl, .int mfa, .ref a_mo16, .int t0_1])), (a_mo2, .inl (cI, 1024, .inl mpic)), (a_mo3, .inl (cI, 1024, .inl mgiv)), (a_mo4, .inl (cI, 1024, .inl mkep)), (a_mo5, .inl (cI, 64, .inl mmod)), (a_mo6, .inl (cI, 1024, .inl mcoe)), (a_mo7, .inl (cI, 64, .inl mnmo)), (a_mo8, .inl (cI, 1024, .inl mnco)), (a_mo11, .inl (cI, 8000, .inl mby)), (a_mo16, .inl (cI, 16, .inl mwk))] H_2 := hP
    have hD : va_D A [(a_mo, .inr (10, [.int ma, .int md, .ref a_mo2, .ref a_mo3, .ref a_mo4, .ref a_mo5, .ref a_mo6, .ref a_mo7, .ref a_mo8, .int mq, .int mz, .ref a_mo11, .int msz, .int mat, .int mpl, .int mfa, .ref a_mo16, .int t0_1])), (a_mo2, .inl (cI, 1024, .inl mpic)), (a_mo3, .inl (cI, 1024, .inl mgiv)), (a_mo4, .inl (cI, 1024, .inl mkep)), (a_mo5, .inl (cI, 64, .inl mmod)), (a_mo6, .inl (cI, 1024, .inl mcoe)), (a_mo7, .inl (cI, 64, .inl mnmo)), (a_mo8, .inl (cI, 1024, .inl mnco)), (a_mo11, .inl (cI, 8000, .inl mby)), (a_mo16, .inl (cI, 16, .inl mwk))] := hD
    refine lv_iload_n hx hb dX10_fails_13 rfl (lv_at hl 1 rfl) ?_
    obtain ⟨hz_3, h⟩ := h
    exact hret v1 (t0_1) _ _ _ _ dX10_fails_14 hz_3.1 h hP hD hS
  refine lv_if_eq (tgt := 9) hx hb dX10_fails_2 (by decide) (fun c_4 => ?_) (fun c_4 => ?_)
  · have h := h.1 c_4
    refine lv_iconst (v := 0) hx hb dX10_fails_9 (by decide) ?_
    exact hJ_1 0 s.heap _ _ h hP hD hS (lv_sub hl [0, 1, 2] rfl)
  · have h := h.2 c_4
    refine lv_iload_n hx hb dX10_fails_5 rfl (lv_at hl 2 rfl) ?_
    refine lv_goto (tgt := 10) hx hb dX10_fails_6 (by decide) ?_
    exact hJ_1 v2 s.heap _ _ h hP hD hS (lv_sub hl [0, 1, 2] rfl)
def wp_X10_within (v0 v1 v2 : Int32) (K : Int32 → Prop) : Prop := ((v0 < v1 → K 0) ∧ (¬ v0 < v1 → ((v2 < v0 → K 0) ∧ (¬ v2 < v0 → K 1))))
abbrev jw_X10_within : List Cond := .code yX10_within cX10_within 3 (some .boolean) :: jmAll
abbrev rmX10_within : Room := { frames := 0, cells := 0, slots := 0, locals := 0 }
set_option maxHeartbeats 4000000 in
set_option maxRecDepth 100000 in
theorem c_X10_within (l : Launch) (D : va_G) (cI cB : ClassId) (tt : Nat × Nat × Nat) (sz : Nat) (v0 v1 v2 : Int32) {K : Int32 → Prop} (h : wp_X10_within v0 v1 v2 K) : Met l yX10_within jw_X10_within rmX10_within (va_Pc [.int v0, .int v1, .int v2] (jm_Pre D cI cB tt [] sz)) (va_Qi (fun (r : Int32) (u : Unit) => K r) (jm_Post D cI cB [] sz (fun (_ : Unit) => [])) (va_A [] sz)) 0 0 (va_A [] sz) := by
  refine jm_metI (by decide +kernel) rfl rfl (Nat.le_of_ble_eq_true rfl) ?_
  intro p e s m args below meth c A Q ls C0 hP hD hl hret
  obtain ⟨hx, hb, hml, hr, hown, hts, hlocks, hA, hK, hE⟩ := C0
  have hS : va_S A s.heap s.heap [] := va_S.rf
  have hl : lv_has ls 3 [(0, .int v0), (1, .int v1), (2, .int v2)] := hl
  unfold wp_X10_within at h
  have hP : va_P D vwCl [] s.heap := hP
  have hD : va_D A [] := hD
  refine lv_iload_n hx hb dX10_within_0 rfl (lv_at hl 0 rfl) ?_
  refine lv_iload_n hx hb dX10_within_1 rfl (lv_at hl 1 rfl) ?_
  refine lv_icmp_lt (tgt := 14) hx hb dX10_within_2 (by decide) (fun c_1 => ?_) (fun c_1 => ?_)
  · have h := h.1 c_1
    refine lv_iconst (v := 0) hx hb dX10_within_14 (by decide) ?_
    exact hret 0 () _ _ _ _ dX10_within_15 (by decide) h hP hD hS
  · have h := h.2 c_1
    refine lv_iload_n hx hb dX10_within_5 rfl (lv_at hl 0 rfl) ?_
    refine lv_iload_n hx hb dX10_within_6 rfl (lv_at hl 2 rfl) ?_
    refine lv_icmp_gt (tgt := 14) hx hb dX10_within_7 (by decide) (fun c_2 => ?_) (fun c_2 => ?_)
    · have h := h.1 c_2
      refine lv_iconst (v := 0) hx hb dX10_within_14 (by decide) ?_
      exact hret 0 () _ _ _ _ dX10_within_15 (by decide) h hP hD hS
    · have h := h.2 c_2
      refine lv_iconst (v := 1) hx hb dX10_within_10 (by decide) ?_
      refine lv_goto (tgt := 15) hx hb dX10_within_11 (by decide) ?_
      exact hret 1 () _ _ _ _ dX10_within_15 (by decide) h hP hD hS
def wp_X10_down (v0 v1 : Int32) (K : Int32 → Prop) : Prop := ((v0 < 0 → ¬ v1 = 0 ∧ K (-(((v1 - 1) - v0) / v1))) ∧ (¬ v0 < 0 → ¬ v1 = 0 ∧ K (v0 / v1)))
abbrev jw_X10_down : List Cond := .code yX10_down cX10_down 2 (some .int) :: jmAll
abbrev rmX10_down : Room := { frames := 0, cells := 0, slots := 0, locals := 0 }
set_option maxHeartbeats 4000000 in
set_option maxRecDepth 100000 in
theorem c_X10_down (l : Launch) (D : va_G) (cI cB : ClassId) (tt : Nat × Nat × Nat) (sz : Nat) (v0 v1 : Int32) {K : Int32 → Prop} (h : wp_X10_down v0 v1 K) : Met l yX10_down jw_X10_down rmX10_down (va_Pc [.int v0, .int v1] (jm_Pre D cI cB tt [] sz)) (va_Qi (fun (r : Int32) (u : Unit) => K r) (jm_Post D cI cB [] sz (fun (_ : Unit) => [])) (va_A [] sz)) 0 0 (va_A [] sz) := by
  refine jm_metI (by decide +kernel) rfl rfl (Nat.le_of_ble_eq_true rfl) ?_
  intro p e s m args below meth c A Q ls C0 hP hD hl hret
  obtain ⟨hx, hb, hml, hr, hown, hts, hlocks, hA, hK, hE⟩ := C0
  have hS : va_S A s.heap s.heap [] := va_S.rf
  have hl : lv_has ls 2 [(0, .int v0), (1, .int v1)] := hl
  unfold wp_X10_down at h
  have hP : va_P D vwCl [] s.heap := hP
  have hD : va_D A [] := hD
  refine lv_iload_n hx hb dX10_down_0 rfl (lv_at hl 0 rfl) ?_
  refine lv_if_lt (tgt := 10) hx hb dX10_down_1 (by decide) (fun c_1 => ?_) (fun c_1 => ?_)
  · have h := h.1 c_1
    refine lv_iload_n hx hb dX10_down_10 rfl (lv_at hl 1 rfl) ?_
    refine lv_iconst (v := 1) hx hb dX10_down_11 (by decide) ?_
    refine lv_isub hx hb dX10_down_12 ?_
    refine lv_iload_n hx hb dX10_down_13 rfl (lv_at hl 0 rfl) ?_
    refine lv_isub hx hb dX10_down_14 ?_
    refine lv_iload_n hx hb dX10_down_15 rfl (lv_at hl 1 rfl) ?_
    obtain ⟨hz_2, h⟩ := h
    refine lv_idiv hx hb dX10_down_16 hz_2 ?_
    refine lv_ineg hx hb dX10_down_17 ?_
    exact hret (-(((v1 - 1) - v0) / v1)) () _ _ _ _ dX10_down_18 (vp_nar_int _) h hP hD hS
  · have h := h.2 c_1
    refine lv_iload_n hx hb dX10_down_4 rfl (lv_at hl 0 rfl) ?_
    refine lv_iload_n hx hb dX10_down_5 rfl (lv_at hl 1 rfl) ?_
    obtain ⟨hz_3, h⟩ := h
    refine lv_idiv hx hb dX10_down_6 hz_3 ?_
    refine lv_goto (tgt := 18) hx hb dX10_down_7 (by decide) ?_
    exact hret (v0 / v1) () _ _ _ _ dX10_down_18 (vp_nar_int _) h hP hD hS
def wp_X10_size (v0 : Int32) (K : Int32 → Prop) : Prop := ((0 ≤ v0 → K v0) ∧ (¬ 0 ≤ v0 → K (-v0)))
abbrev jw_X10_size : List Cond := .code yX10_size cX10_size 1 (some .int) :: jmAll
abbrev rmX10_size : Room := { frames := 0, cells := 0, slots := 0, locals := 0 }
set_option maxHeartbeats 4000000 in
set_option maxRecDepth 100000 in
theorem c_X10_size (l : Launch) (D : va_G) (cI cB : ClassId) (tt : Nat × Nat × Nat) (sz : Nat) (v0 : Int32) {K : Int32 → Prop} (h : wp_X10_size v0 K) : Met l yX10_size jw_X10_size rmX10_size (va_Pc [.int v0] (jm_Pre D cI cB tt [] sz)) (va_Qi (fun (r : Int32) (u : Unit) => K r) (jm_Post D cI cB [] sz (fun (_ : Unit) => [])) (va_A [] sz)) 0 0 (va_A [] sz) := by
  refine jm_metI (by decide +kernel) rfl rfl (Nat.le_of_ble_eq_true rfl) ?_
  intro p e s m args below meth c A Q ls C0 hP hD hl hret
  obtain ⟨hx, hb, hml, hr, hown, hts, hlocks, hA, hK, hE⟩ := C0
  have hS : va_S A s.heap s.heap [] := va_S.rf
  have hl : lv_has ls 1 [(0, .int v0)] := hl
  unfold wp_X10_size at h
  have hP : va_P D vwCl [] s.heap := hP
  have hD : va_D A [] := hD
  refine lv_iload_n hx hb dX10_size_0 rfl (lv_at hl 0 rfl) ?_
  refine lv_if_ge (tgt := 9) hx hb dX10_size_1 (by decide) (fun c_1 => ?_) (fun c_1 => ?_)
  · have h := h.1 c_1
    refine lv_iload_n hx hb dX10_size_9 rfl (lv_at hl 0 rfl) ?_
    exact hret v0 () _ _ _ _ dX10_size_10 (vp_nar_int _) h hP hD hS
  · have h := h.2 c_1
    refine lv_iload_n hx hb dX10_size_4 rfl (lv_at hl 0 rfl) ?_
    refine lv_ineg hx hb dX10_size_5 ?_
    refine lv_goto (tgt := 10) hx hb dX10_size_6 (by decide) ?_
    exact hret (-v0) () _ _ _ _ dX10_size_10 (vp_nar_int _) h hP hD hS
def wp_X10_clip (v0 : Int32) (K : Int32 → Prop) : Prop := ((0 ≤ v0 → ((v0 ≤ 255 → K v0) ∧ (¬ v0 ≤ 255 → K 255))) ∧ (¬ 0 ≤ v0 → K 0))
abbrev jw_X10_clip : List Cond := .code yX10_clip cX10_clip 1 (some .int) :: jmAll
abbrev rmX10_clip : Room := { frames := 0, cells := 0, slots := 0, locals := 0 }
set_option maxHeartbeats 4000000 in
set_option maxRecDepth 100000 in
theorem c_X10_clip (l : Launch) (D : va_G) (cI cB : ClassId) (tt : Nat × Nat × Nat) (sz : Nat) (v0 : Int32) {K : Int32 → Prop} (h : wp_X10_clip v0 K) : Met l yX10_clip jw_X10_clip rmX10_clip (va_Pc [.int v0] (jm_Pre D cI cB tt [] sz)) (va_Qi (fun (r : Int32) (u : Unit) => K r) (jm_Post D cI cB [] sz (fun (_ : Unit) => [])) (va_A [] sz)) 0 0 (va_A [] sz) := by
  refine jm_metI (by decide +kernel) rfl rfl (Nat.le_of_ble_eq_true rfl) ?_
  intro p e s m args below meth c A Q ls C0 hP hD hl hret
  obtain ⟨hx, hb, hml, hr, hown, hts, hlocks, hA, hK, hE⟩ := C0
  have hS : va_S A s.heap s.heap [] := va_S.rf
  have hl : lv_has ls 1 [(0, .int v0)] := hl
  unfold wp_X10_clip at h
  have hP : va_P D vwCl [] s.heap := hP
  have hD : va_D A [] := hD
  refine lv_iload_n hx hb dX10_clip_0 rfl (lv_at hl 0 rfl) ?_
  refine lv_if_ge (tgt := 8) hx hb dX10_clip_1 (by decide) (fun c_1 => ?_) (fun c_1 => ?_)
  · have h := h.1 c_1
    refine lv_iload_n hx hb dX10_clip_8 rfl (lv_at hl 0 rfl) ?_
    refine lv_sipush (v := 255) hx hb dX10_clip_9 (by decide) ?_
    refine lv_icmp_le (tgt := 21) hx hb dX10_clip_12 (by decide) (fun c_2 => ?_) (fun c_2 => ?_)
    · have h := h.1 c_2
      refine lv_iload_n hx hb dX10_clip_21 rfl (lv_at hl 0 rfl) ?_
      exact hret v0 () _ _ _ _ dX10_clip_22 (vp_nar_int _) h hP hD hS
    · have h := h.2 c_2
      refine lv_sipush (v := 255) hx hb dX10_clip_15 (by decide) ?_
      refine lv_goto (tgt := 22) hx hb dX10_clip_18 (by decide) ?_
      exact hret 255 () _ _ _ _ dX10_clip_22 (vp_nar_int _) h hP hD hS
  · have h := h.2 c_1
    refine lv_iconst (v := 0) hx hb dX10_clip_4 (by decide) ?_
    refine lv_goto (tgt := 22) hx hb dX10_clip_5 (by decide) ?_
    exact hret 0 () _ _ _ _ dX10_clip_22 (vp_nar_int _) h hP hD hS
def wl_X10_begin_46 (K : Int32 → Int32 → Int32 → Int32 → Int32 → (Nat → Int32) → (Nat → Int32) → (Nat → Int32) → Prop) (X : Int32 → (Nat → Int32) → (Nat → Int32) → Prop) : Nat → Int32 → (Nat → Int32) → (Nat → Int32) → Prop
  | 0, _, _, _ => False
  | n + 1, v3, mpic, mcoe => ((1024 ≤ v3 → X v3 mpic mcoe) ∧ (¬ 1024 ≤ v3 → vp_in v3 1024 ∧ vp_in v3 1024 ∧ ∀ x3_12 : Int32, x3_12 = v3 + 1 → wl_X10_begin_46  K X n x3_12 (jup mpic v3 0) (jup mcoe v3 0)))
def wl_X10_begin_75 (K : Int32 → Int32 → Int32 → Int32 → Int32 → (Nat → Int32) → (Nat → Int32) → (Nat → Int32) → Prop) (X : Int32 → (Nat → Int32) → Prop) : Nat → Int32 → (Nat → Int32) → Prop
  | 0, _, _ => False
  | n + 1, v3, mmod => ((64 ≤ v3 → X v3 mmod) ∧ (¬ 64 ≤ v3 → vp_in v3 64 ∧ ∀ x3_17 : Int32, x3_17 = v3 + 1 → wl_X10_begin_75  K X n x3_17 (jup mmod v3 (-1))))
def wp_X10_begin (ma : Int32) (md : Int32) (mq : Int32) (mz : Int32) (mth : Int32) (mpic : (Nat → Int32)) (mmod : (Nat → Int32)) (mcoe : (Nat → Int32)) (v1 v2 : Int32) (K : Int32 → Int32 → Int32 → Int32 → Int32 → (Nat → Int32) → (Nat → Int32) → (Nat → Int32) → Prop) : Prop := wp_X10_within v1 1 8 (fun (r_1 : Int32) => jn1 (fun (t0_2 : Int32) => wp_X10_fails mth t0_2 1 (fun (r_3 : Int32) (mth_3 : Int32) => ((r_3 = 0 → ∃ k : Nat, wl_X10_begin_46  K (fun (v3_13 : Int32) (mpic_13 : (Nat → Int32)) (mcoe_13 : (Nat → Int32)) => ∃ k : Nat, wl_X10_begin_75  K (fun (v3_18 : Int32) (mmod_18 : (Nat → Int32)) => K v1 v2 0 0 mth_3 mpic_13 mmod_18 mcoe_13) k 0 mmod) k 0 mpic mcoe) ∧ (¬ r_3 = 0 → K ma md mq mz mth_3 mpic mmod mcoe)))) (fun J_2 => jn0 (J_2 1) (fun J_21 => ((r_1 = 0 → J_21) ∧ (¬ r_1 = 0 → wp_X10_within v2 1 8 (fun (r_23 : Int32) => ((r_23 = 0 → J_21) ∧ (¬ r_23 = 0 → J_2 0))))))))
abbrev jw_X10_begin : List Cond := .code yX10_begin cX10_begin 4 none :: jmAll
abbrev rmX10_begin : Room := { frames := 1, cells := 0, slots := 0, locals := 22 }
set_option maxHeartbeats 4000000 in
set_option maxRecDepth 100000 in
theorem c_X10_begin (l : Launch) (D : va_G) (cI cB : ClassId) (tt : Nat × Nat × Nat) (a_mo a_mo2 a_mo3 a_mo4 a_mo5 a_mo6 a_mo7 a_mo8 a_mo11 a_mo16 : Nat) (sz : Nat) (ma : Int32) (md : Int32) (mq : Int32) (mz : Int32) (msz : Int32) (mat : Int32) (mpl : Int32) (mfa : Int32) (mth : Int32) (mpic : (Nat → Int32)) (mgiv : (Nat → Int32)) (mkep : (Nat → Int32)) (mmod : (Nat → Int32)) (mcoe : (Nat → Int32)) (mnmo : (Nat → Int32)) (mnco : (Nat → Int32)) (mby : (Nat → Int32)) (mwk : (Nat → Int32)) (v1 v2 : Int32) {K : Int32 → Int32 → Int32 → Int32 → Int32 → (Nat → Int32) → (Nat → Int32) → (Nat → Int32) → Prop} (h : wp_X10_begin ma md mq mz mth mpic mmod mcoe v1 v2 K) : Met l yX10_begin jw_X10_begin rmX10_begin (va_Pc [.ref a_mo, .int v1, .int v2] (jm_Pre D cI cB tt (wd_mo_mo2_mo3_mo4_mo5_mo6_mo7_mo8_mo11_mo16 cI cB a_mo a_mo2 a_mo3 a_mo4 a_mo5 a_mo6 a_mo7 a_mo8 a_mo11 a_mo16 ma md mq mz msz mat mpl mfa mth mpic mgiv mkep mmod mcoe mnmo mnco mby mwk) sz)) (va_Qv (fun (u : Int32 × Int32 × Int32 × Int32 × Int32 × (Nat → Int32) × (Nat → Int32) × (Nat → Int32)) => pr8 K u) (jm_Post D cI cB (wd_mo_mo2_mo3_mo4_mo5_mo6_mo7_mo8_mo11_mo16 cI cB a_mo a_mo2 a_mo3 a_mo4 a_mo5 a_mo6 a_mo7 a_mo8 a_mo11 a_mo16 ma md mq mz msz mat mpl mfa mth mpic mgiv mkep mmod mcoe mnmo mnco mby mwk) sz (fun (u : Int32 × Int32 × Int32 × Int32 × Int32 × (Nat → Int32) × (Nat → Int32) × (Nat → Int32)) => wd_mo_mo2_mo3_mo4_mo5_mo6_mo7_mo8_mo11_mo16 cI cB a_mo a_mo2 a_mo3 a_mo4 a_mo5 a_mo6 a_mo7 a_mo8 a_mo11 a_mo16 u.1 u.2.1 u.2.2.1 u.2.2.2.1 msz mat mpl mfa u.2.2.2.2.1 u.2.2.2.2.2.1 mgiv mkep u.2.2.2.2.2.2.1 u.2.2.2.2.2.2.2 mnmo mnco mby mwk)) (va_A (wd_mo_mo2_mo3_mo4_mo5_mo6_mo7_mo8_mo11_mo16 cI cB a_mo a_mo2 a_mo3 a_mo4 a_mo5 a_mo6 a_mo7 a_mo8 a_mo11 a_mo16 ma md mq mz msz mat mpl mfa mth mpic mgiv mkep mmod mcoe mnmo mnco mby mwk) sz)) 0 0 (va_A (wd_mo_mo2_mo3_mo4_mo5_mo6_mo7_mo8_mo11_mo16 cI cB a_mo a_mo2 a_mo3 a_mo4 a_mo5 a_mo6 a_mo7 a_mo8 a_mo11 a_mo16 ma md mq mz msz mat mpl mfa mth mpic mgiv mkep mmod mcoe mnmo mnco mby mwk) sz) := by
  refine jm_metV (by decide +kernel) rfl rfl (Nat.le_of_ble_eq_true rfl) ?_
  intro p e s m args below meth c A Q ls C0 hP hD hl hret
  obtain ⟨hx, hb, hml, hr, hown, hts, hlocks, hA, hK, hE⟩ := C0
  have hS : va_S A s.heap s.heap [] := va_S.rf
  have hl : lv_has ls 4 [(0, .ref a_mo), (1, .int v1), (2, .int v2)] := hl
  unfold wp_X10_begin at h
  have hP : va_P D vwCl [(a_mo, .inr (10, [.int ma, .int md, .ref a_mo2, .ref a_mo3, .ref a_mo4, .ref a_mo5, .ref a_mo6, .ref a_mo7, .ref a_mo8, .int mq, .int mz, .ref a_mo11, .int msz, .int mat, .int mpl, .int mfa, .ref a_mo16, .int mth])), (a_mo2, .inl (cI, 1024, .inl mpic)), (a_mo3, .inl (cI, 1024, .inl mgiv)), (a_mo4, .inl (cI, 1024, .inl mkep)), (a_mo5, .inl (cI, 64, .inl mmod)), (a_mo6, .inl (cI, 1024, .inl mcoe)), (a_mo7, .inl (cI, 64, .inl mnmo)), (a_mo8, .inl (cI, 1024, .inl mnco)), (a_mo11, .inl (cI, 8000, .inl mby)), (a_mo16, .inl (cI, 16, .inl mwk))] s.heap := hP
  have hD : va_D A [(a_mo, .inr (10, [.int ma, .int md, .ref a_mo2, .ref a_mo3, .ref a_mo4, .ref a_mo5, .ref a_mo6, .ref a_mo7, .ref a_mo8, .int mq, .int mz, .ref a_mo11, .int msz, .int mat, .int mpl, .int mfa, .ref a_mo16, .int mth])), (a_mo2, .inl (cI, 1024, .inl mpic)), (a_mo3, .inl (cI, 1024, .inl mgiv)), (a_mo4, .inl (cI, 1024, .inl mkep)), (a_mo5, .inl (cI, 64, .inl mmod)), (a_mo6, .inl (cI, 1024, .inl mcoe)), (a_mo7, .inl (cI, 64, .inl mnmo)), (a_mo8, .inl (cI, 1024, .inl mnco)), (a_mo11, .inl (cI, 8000, .inl mby)), (a_mo16, .inl (cI, 16, .inl mwk))] := hD
  have iX10 : ∀ w ∈ wsX100, w ∈ jw_X10_begin := fun w h => List.mem_cons_of_mem _ (jm_iX10 w h)
  have lk13 := hts (.fieldLink RX10 13 "IntraMillModel" "down" "I") (List.mem_cons_of_mem _ mw_735)
  have lk16 := hts (.fieldLink RX10 16 "IntraMillModel" "picture" "[I") (List.mem_cons_of_mem _ mw_736)
  have lk26 := hts (.fieldLink RX10 26 "IntraMillModel" "modes" "[I") (List.mem_cons_of_mem _ mw_739)
  have lk29 := hts (.fieldLink RX10 29 "IntraMillModel" "coefficients" "[I") (List.mem_cons_of_mem _ mw_740)
  have lk58 := hts (.fieldLink RX10 58 "IntraMillModel" "qp" "I") (List.mem_cons_of_mem _ mw_743)
  have lk61 := hts (.fieldLink RX10 61 "IntraMillModel" "smoothed" "Z") (List.mem_cons_of_mem _ mw_744)
  have lk7 := hts (.fieldLink RX10 7 "IntraMillModel" "across" "I") (List.mem_cons_of_mem _ mw_734)
  refine lv_aload_n hx hb dX10_begin_0 rfl (lv_at hl 0 rfl) ?_
  refine lv_iload_n hx hb dX10_begin_1 rfl (lv_at hl 1 rfl) ?_
  refine lv_iconst (v := 1) hx hb dX10_begin_2 (by decide) ?_
  refine lv_bipush (v := 8) hx hb dX10_begin_3 (by decide) ?_
  have hPc := hP.sub (ws' := []) [] rfl
  have hDc := hD.sub (ws' := []) [] (by decide) rfl
  have hFc := va_free (wc := []) hD hS hA [] rfl
  refine jm_calli (wr := [(a_mo, .inr (10, [.int ma, .int md, .ref a_mo2, .ref a_mo3, .ref a_mo4, .ref a_mo5, .ref a_mo6, .ref a_mo7, .ref a_mo8, .int mq, .int mz, .ref a_mo11, .int msz, .int mat, .int mpl, .int mfa, .ref a_mo16, .int mth])), (a_mo2, .inl (cI, 1024, .inl mpic)), (a_mo3, .inl (cI, 1024, .inl mgiv)), (a_mo4, .inl (cI, 1024, .inl mkep)), (a_mo5, .inl (cI, 64, .inl mmod)), (a_mo6, .inl (cI, 1024, .inl mcoe)), (a_mo7, .inl (cI, 64, .inl mnmo)), (a_mo8, .inl (cI, 1024, .inl mnco)), (a_mo11, .inl (cI, 8000, .inl mby)), (a_mo16, .inl (cI, 16, .inl mwk))]) (va_runS (As := [.int v1, .int 1, .int 8]) (rest := [.ref a_mo]) ⟨hx, hb, hml, hown, hts⟩ (c_X10_within l D cI cB tt s.heap.size v1 1 8 h) (va_cwS 3 hts (jm_gS mw_797 mw_798 mw_65 mw_799) rfl rfl rfl (by decide +kernel) ⟨Nat.le_of_ble_eq_true rfl, Nat.le_of_ble_eq_true rfl⟩) ⟨jm_blind, jm_pre hK hE hS hPc hDc hFc _⟩ rfl rfl hl.1 rfl (lv_room (Nat.le_of_ble_eq_true rfl)) dX10_begin_5 ⟨Nat.zero_le _, Nat.zero_le _⟩) hS hP hD [] [0, 1, 2, 3, 4, 5, 6, 7, 8, 9] rfl rfl (by decide) (by decide) hFc (fun r_1 u_1 H_1 locs hw hP hD hS => ?_)
  have h := hw
  have hP : va_P D vwCl [(a_mo, .inr (10, [.int ma, .int md, .ref a_mo2, .ref a_mo3, .ref a_mo4, .ref a_mo5, .ref a_mo6, .ref a_mo7, .ref a_mo8, .int mq, .int mz, .ref a_mo11, .int msz, .int mat, .int mpl, .int mfa, .ref a_mo16, .int mth])), (a_mo2, .inl (cI, 1024, .inl mpic)), (a_mo3, .inl (cI, 1024, .inl mgiv)), (a_mo4, .inl (cI, 1024, .inl mkep)), (a_mo5, .inl (cI, 64, .inl mmod)), (a_mo6, .inl (cI, 1024, .inl mcoe)), (a_mo7, .inl (cI, 64, .inl mnmo)), (a_mo8, .inl (cI, 1024, .inl mnco)), (a_mo11, .inl (cI, 8000, .inl mby)), (a_mo16, .inl (cI, 16, .inl mwk))] H_1 := hP.sub [0, 1, 2, 3, 4, 5, 6, 7, 8, 9] rfl
  have hD : va_D A [(a_mo, .inr (10, [.int ma, .int md, .ref a_mo2, .ref a_mo3, .ref a_mo4, .ref a_mo5, .ref a_mo6, .ref a_mo7, .ref a_mo8, .int mq, .int mz, .ref a_mo11, .int msz, .int mat, .int mpl, .int mfa, .ref a_mo16, .int mth])), (a_mo2, .inl (cI, 1024, .inl mpic)), (a_mo3, .inl (cI, 1024, .inl mgiv)), (a_mo4, .inl (cI, 1024, .inl mkep)), (a_mo5, .inl (cI, 64, .inl mmod)), (a_mo6, .inl (cI, 1024, .inl mcoe)), (a_mo7, .inl (cI, 64, .inl mnmo)), (a_mo8, .inl (cI, 1024, .inl mnco)), (a_mo11, .inl (cI, 8000, .inl mby)), (a_mo16, .inl (cI, 16, .inl mwk))] := hD.sub [0, 1, 2, 3, 4, 5, 6, 7, 8, 9] (by decide) rfl
  obtain ⟨J_2, hj_2, h⟩ := jn1_out h
  have hJ_2 : ∀ (t0_2 : Int32), ∀ (H : Heap) (locs : List Loc) (ls : Array Slot), J_2 t0_2 → va_P D vwCl [(a_mo, .inr (10, [.int ma, .int md, .ref a_mo2, .ref a_mo3, .ref a_mo4, .ref a_mo5, .ref a_mo6, .ref a_mo7, .ref a_mo8, .int mq, .int mz, .ref a_mo11, .int msz, .int mat, .int mpl, .int mfa, .ref a_mo16, .int mth])), (a_mo2, .inl (cI, 1024, .inl mpic)), (a_mo3, .inl (cI, 1024, .inl mgiv)), (a_mo4, .inl (cI, 1024, .inl mkep)), (a_mo5, .inl (cI, 64, .inl mmod)), (a_mo6, .inl (cI, 1024, .inl mcoe)), (a_mo7, .inl (cI, 64, .inl mnmo)), (a_mo8, .inl (cI, 1024, .inl mnco)), (a_mo11, .inl (cI, 8000, .inl mby)), (a_mo16, .inl (cI, 16, .inl mwk))] H → va_D A [(a_mo, .inr (10, [.int ma, .int md, .ref a_mo2, .ref a_mo3, .ref a_mo4, .ref a_mo5, .ref a_mo6, .ref a_mo7, .ref a_mo8, .int mq, .int mz, .ref a_mo11, .int msz, .int mat, .int mpl, .int mfa, .ref a_mo16, .int mth])), (a_mo2, .inl (cI, 1024, .inl mpic)), (a_mo3, .inl (cI, 1024, .inl mgiv)), (a_mo4, .inl (cI, 1024, .inl mkep)), (a_mo5, .inl (cI, 64, .inl mmod)), (a_mo6, .inl (cI, 1024, .inl mcoe)), (a_mo7, .inl (cI, 64, .inl mnmo)), (a_mo8, .inl (cI, 1024, .inl mnco)), (a_mo11, .inl (cI, 8000, .inl mby)), (a_mo16, .inl (cI, 16, .inl mwk))] → va_S A s.heap H locs → lv_has ls 4 [(0, .ref a_mo), (1, .int v1), (2, .int v2)] → W p l e rmX10_begin s m args below meth c H locs 0 0 Q (F0 m 26 ls [.int t0_2, .ref a_mo]) := by
    intro t0_2 H locs ls h hP hD hS hl
    have h := hj_2 t0_2 h
    refine lv_iconst (v := 1) hx hb dX10_begin_26 (by decide) ?_
    have hPc := hP.sub (ws' := [(a_mo, .inr (10, [.int ma, .int md, .ref a_mo2, .ref a_mo3, .ref a_mo4, .ref a_mo5, .ref a_mo6, .ref a_mo7, .ref a_mo8, .int mq, .int mz, .ref a_mo11, .int msz, .int mat, .int mpl, .int mfa, .ref a_mo16, .int mth])), (a_mo2, .inl (cI, 1024, .inl mpic)), (a_mo3, .inl (cI, 1024, .inl mgiv)), (a_mo4, .inl (cI, 1024, .inl mkep)), (a_mo5, .inl (cI, 64, .inl mmod)), (a_mo6, .inl (cI, 1024, .inl mcoe)), (a_mo7, .inl (cI, 64, .inl mnmo)), (a_mo8, .inl (cI, 1024, .inl mnco)), (a_mo11, .inl (cI, 8000, .inl mby)), (a_mo16, .inl (cI, 16, .inl mwk))]) [0, 1, 2, 3, 4, 5, 6, 7, 8, 9] rfl
    have hDc := hD.sub (ws' := [(a_mo, .inr (10, [.int ma, .int md, .ref a_mo2, .ref a_mo3, .ref a_mo4, .ref a_mo5, .ref a_mo6, .ref a_mo7, .ref a_mo8, .int mq, .int mz, .ref a_mo11, .int msz, .int mat, .int mpl, .int mfa, .ref a_mo16, .int mth])), (a_mo2, .inl (cI, 1024, .inl mpic)), (a_mo3, .inl (cI, 1024, .inl mgiv)), (a_mo4, .inl (cI, 1024, .inl mkep)), (a_mo5, .inl (cI, 64, .inl mmod)), (a_mo6, .inl (cI, 1024, .inl mcoe)), (a_mo7, .inl (cI, 64, .inl mnmo)), (a_mo8, .inl (cI, 1024, .inl mnco)), (a_mo11, .inl (cI, 8000, .inl mby)), (a_mo16, .inl (cI, 16, .inl mwk))]) [0, 1, 2, 3, 4, 5, 6, 7, 8, 9] (by decide) rfl
    have hFc := va_free (wc := [(a_mo, .inr (10, [.int ma, .int md, .ref a_mo2, .ref a_mo3, .ref a_mo4, .ref a_mo5, .ref a_mo6, .ref a_mo7, .ref a_mo8, .int mq, .int mz, .ref a_mo11, .int msz, .int mat, .int mpl, .int mfa, .ref a_mo16, .int mth])), (a_mo2, .inl (cI, 1024, .inl mpic)), (a_mo3, .inl (cI, 1024, .inl mgiv)), (a_mo4, .inl (cI, 1024, .inl mkep)), (a_mo5, .inl (cI, 64, .inl mmod)), (a_mo6, .inl (cI, 1024, .inl mcoe)), (a_mo7, .inl (cI, 64, .inl mnmo)), (a_mo8, .inl (cI, 1024, .inl mnco)), (a_mo11, .inl (cI, 8000, .inl mby)), (a_mo16, .inl (cI, 16, .inl mwk))]) hD hS hA [0, 1, 2, 3, 4, 5, 6, 7, 8, 9] rfl
    refine jm_calli (wr := []) (va_runV (As := [.int t0_2, .int 1]) (rest := []) ⟨hx, hb, hml, hown, hts⟩ (c_X10_fails l D cI cB tt a_mo a_mo2 a_mo3 a_mo4 a_mo5 a_mo6 a_mo7 a_mo8 a_mo11 a_mo16 H.size ma md mq mz msz mat mpl mfa mth mpic mgiv mkep mmod mcoe mnmo mnco mby mwk t0_2 1 h) (cwV 2 hts (jm_gV mw_800 mw_802 mw_25 mw_65 mw_803) rfl rfl rfl (by decide +kernel) ⟨Nat.le_of_ble_eq_true rfl, Nat.le_of_ble_eq_true rfl⟩) ⟨jm_blind, va_recv hK hPc (ci := 10) (q0 := 0) rfl rfl, jm_pre hK hE hS hPc hDc hFc _⟩ rfl rfl hl.1 rfl (lv_room (Nat.le_of_ble_eq_true rfl)) dX10_begin_27 ⟨Nat.zero_le _, Nat.zero_le _⟩) hS hP hD [0, 1, 2, 3, 4, 5, 6, 7, 8, 9] [] rfl rfl (by decide) (by decide) hFc (fun r_3 u_3 H_3 locs hw hP hD hS => ?_)
    obtain ⟨mth_3, rfl⟩ : ∃ z, z = u_3 := ⟨_, rfl⟩
    have h := hw
    have hP : va_P D vwCl [(a_mo, .inr (10, [.int ma, .int md, .ref a_mo2, .ref a_mo3, .ref a_mo4, .ref a_mo5, .ref a_mo6, .ref a_mo7, .ref a_mo8, .int mq, .int mz, .ref a_mo11, .int msz, .int mat, .int mpl, .int mfa, .ref a_mo16, .int mth_3])), (a_mo2, .inl (cI, 1024, .inl mpic)), (a_mo3, .inl (cI, 1024, .inl mgiv)), (a_mo4, .inl (cI, 1024, .inl mkep)), (a_mo5, .inl (cI, 64, .inl mmod)), (a_mo6, .inl (cI, 1024, .inl mcoe)), (a_mo7, .inl (cI, 64, .inl mnmo)), (a_mo8, .inl (cI, 1024, .inl mnco)), (a_mo11, .inl (cI, 8000, .inl mby)), (a_mo16, .inl (cI, 16, .inl mwk))] H_3 := hP.sub [0, 1, 2, 3, 4, 5, 6, 7, 8, 9] rfl
    have hD : va_D A [(a_mo, .inr (10, [.int ma, .int md, .ref a_mo2, .ref a_mo3, .ref a_mo4, .ref a_mo5, .ref a_mo6, .ref a_mo7, .ref a_mo8, .int mq, .int mz, .ref a_mo11, .int msz, .int mat, .int mpl, .int mfa, .ref a_mo16, .int mth_3])), (a_mo2, .inl (cI, 1024, .inl mpic)), (a_mo3, .inl (cI, 1024, .inl mgiv)), (a_mo4, .inl (cI, 1024, .inl mkep)), (a_mo5, .inl (cI, 64, .inl mmod)), (a_mo6, .inl (cI, 1024, .inl mcoe)), (a_mo7, .inl (cI, 64, .inl mnmo)), (a_mo8, .inl (cI, 1024, .inl mnco)), (a_mo11, .inl (cI, 8000, .inl mby)), (a_mo16, .inl (cI, 16, .inl mwk))] := hD.sub [0, 1, 2, 3, 4, 5, 6, 7, 8, 9] (by decide) rfl
    refine lv_if_eq (tgt := 34) hx hb dX10_begin_30 (by decide) (fun c_4 => ?_) (fun c_4 => ?_)
    · have h := h.1 c_4
      refine lv_aload_n hx hb dX10_begin_34 rfl (lv_at hl 0 rfl) ?_
      refine lv_iload_n hx hb dX10_begin_35 rfl (lv_at hl 1 rfl) ?_
      refine va_put (D := D) (ci := 10) (v := .int v1) (ty := .int) (C := RX10) (T := TX10) (N := 18) hx hb hts iX10 tyX10 tyX10_ok nmX10 hown hK hP hD hS 0 rfl rfl 0 (by decide) lk7 (fun _ h9 => h9) rfl (by decide +kernel) rfl rfl (Nat.le_of_ble_eq_true rfl) dX10_begin_36 (fun H_5 locs hP hD hS => ?_)
      have hP : va_P D vwCl [(a_mo, .inr (10, [.int v1, .int md, .ref a_mo2, .ref a_mo3, .ref a_mo4, .ref a_mo5, .ref a_mo6, .ref a_mo7, .ref a_mo8, .int mq, .int mz, .ref a_mo11, .int msz, .int mat, .int mpl, .int mfa, .ref a_mo16, .int mth_3])), (a_mo2, .inl (cI, 1024, .inl mpic)), (a_mo3, .inl (cI, 1024, .inl mgiv)), (a_mo4, .inl (cI, 1024, .inl mkep)), (a_mo5, .inl (cI, 64, .inl mmod)), (a_mo6, .inl (cI, 1024, .inl mcoe)), (a_mo7, .inl (cI, 64, .inl mnmo)), (a_mo8, .inl (cI, 1024, .inl mnco)), (a_mo11, .inl (cI, 8000, .inl mby)), (a_mo16, .inl (cI, 16, .inl mwk))] H_5 := hP
      have hD : va_D A [(a_mo, .inr (10, [.int v1, .int md, .ref a_mo2, .ref a_mo3, .ref a_mo4, .ref a_mo5, .ref a_mo6, .ref a_mo7, .ref a_mo8, .int mq, .int mz, .ref a_mo11, .int msz, .int mat, .int mpl, .int mfa, .ref a_mo16, .int mth_3])), (a_mo2, .inl (cI, 1024, .inl mpic)), (a_mo3, .inl (cI, 1024, .inl mgiv)), (a_mo4, .inl (cI, 1024, .inl mkep)), (a_mo5, .inl (cI, 64, .inl mmod)), (a_mo6, .inl (cI, 1024, .inl mcoe)), (a_mo7, .inl (cI, 64, .inl mnmo)), (a_mo8, .inl (cI, 1024, .inl mnco)), (a_mo11, .inl (cI, 8000, .inl mby)), (a_mo16, .inl (cI, 16, .inl mwk))] := hD
      refine lv_aload_n hx hb dX10_begin_39 rfl (lv_at hl 0 rfl) ?_
      refine lv_iload_n hx hb dX10_begin_40 rfl (lv_at hl 2 rfl) ?_
      refine va_put (D := D) (ci := 10) (v := .int v2) (ty := .int) (C := RX10) (T := TX10) (N := 18) hx hb hts iX10 tyX10 tyX10_ok nmX10 hown hK hP hD hS 0 rfl rfl 1 (by decide) lk13 (fun _ h9 => h9) rfl (by decide +kernel) rfl rfl (Nat.le_of_ble_eq_true rfl) dX10_begin_41 (fun H_6 locs hP hD hS => ?_)
      have hP : va_P D vwCl [(a_mo, .inr (10, [.int v1, .int v2, .ref a_mo2, .ref a_mo3, .ref a_mo4, .ref a_mo5, .ref a_mo6, .ref a_mo7, .ref a_mo8, .int mq, .int mz, .ref a_mo11, .int msz, .int mat, .int mpl, .int mfa, .ref a_mo16, .int mth_3])), (a_mo2, .inl (cI, 1024, .inl mpic)), (a_mo3, .inl (cI, 1024, .inl mgiv)), (a_mo4, .inl (cI, 1024, .inl mkep)), (a_mo5, .inl (cI, 64, .inl mmod)), (a_mo6, .inl (cI, 1024, .inl mcoe)), (a_mo7, .inl (cI, 64, .inl mnmo)), (a_mo8, .inl (cI, 1024, .inl mnco)), (a_mo11, .inl (cI, 8000, .inl mby)), (a_mo16, .inl (cI, 16, .inl mwk))] H_6 := hP
      have hD : va_D A [(a_mo, .inr (10, [.int v1, .int v2, .ref a_mo2, .ref a_mo3, .ref a_mo4, .ref a_mo5, .ref a_mo6, .ref a_mo7, .ref a_mo8, .int mq, .int mz, .ref a_mo11, .int msz, .int mat, .int mpl, .int mfa, .ref a_mo16, .int mth_3])), (a_mo2, .inl (cI, 1024, .inl mpic)), (a_mo3, .inl (cI, 1024, .inl mgiv)), (a_mo4, .inl (cI, 1024, .inl mkep)), (a_mo5, .inl (cI, 64, .inl mmod)), (a_mo6, .inl (cI, 1024, .inl mcoe)), (a_mo7, .inl (cI, 64, .inl mnmo)), (a_mo8, .inl (cI, 1024, .inl mnco)), (a_mo11, .inl (cI, 8000, .inl mby)), (a_mo16, .inl (cI, 16, .inl mwk))] := hD
      refine lv_iconst (v := 0) hx hb dX10_begin_44 (by decide) ?_
      refine lv_istore_n (lv' := [(3, .int 0), (0, .ref a_mo), (1, .int v1), (2, .int v2)]) hx hb dX10_begin_45 rfl hl (by decide) rfl (fun ls hl => ?_)
      obtain ⟨n_13, h⟩ := h
      have hL_13 : ∀ (v1 : Int32) (v2 : Int32) (ma : Int32) (md : Int32) (mq : Int32) (mz : Int32) (mth : Int32) (mmod : (Nat → Int32)) (X : Int32 → (Nat → Int32) → (Nat → Int32) → Prop), (∀ (v3 : Int32) (mpic : (Nat → Int32)) (mcoe : (Nat → Int32)), ∀ (H : Heap) (locs : List Loc) (ls : Array Slot), X v3 mpic mcoe → va_P D vwCl [(a_mo, .inr (10, [.int ma, .int md, .ref a_mo2, .ref a_mo3, .ref a_mo4, .ref a_mo5, .ref a_mo6, .ref a_mo7, .ref a_mo8, .int mq, .int mz, .ref a_mo11, .int msz, .int mat, .int mpl, .int mfa, .ref a_mo16, .int mth])), (a_mo2, .inl (cI, 1024, .inl mpic)), (a_mo3, .inl (cI, 1024, .inl mgiv)), (a_mo4, .inl (cI, 1024, .inl mkep)), (a_mo5, .inl (cI, 64, .inl mmod)), (a_mo6, .inl (cI, 1024, .inl mcoe)), (a_mo7, .inl (cI, 64, .inl mnmo)), (a_mo8, .inl (cI, 1024, .inl mnco)), (a_mo11, .inl (cI, 8000, .inl mby)), (a_mo16, .inl (cI, 16, .inl mwk))] H → va_D A [(a_mo, .inr (10, [.int ma, .int md, .ref a_mo2, .ref a_mo3, .ref a_mo4, .ref a_mo5, .ref a_mo6, .ref a_mo7, .ref a_mo8, .int mq, .int mz, .ref a_mo11, .int msz, .int mat, .int mpl, .int mfa, .ref a_mo16, .int mth])), (a_mo2, .inl (cI, 1024, .inl mpic)), (a_mo3, .inl (cI, 1024, .inl mgiv)), (a_mo4, .inl (cI, 1024, .inl mkep)), (a_mo5, .inl (cI, 64, .inl mmod)), (a_mo6, .inl (cI, 1024, .inl mcoe)), (a_mo7, .inl (cI, 64, .inl mnmo)), (a_mo8, .inl (cI, 1024, .inl mnco)), (a_mo11, .inl (cI, 8000, .inl mby)), (a_mo16, .inl (cI, 16, .inl mwk))] → va_S A s.heap H locs → lv_has ls 4 [(0, .ref a_mo), (1, .int v1), (2, .int v2), (3, .int v3)] → W p l e rmX10_begin s m args below meth c H locs 0 0 Q (F0 m 73 ls [])) → ∀ (n : Nat) (v3 : Int32) (mpic : (Nat → Int32)) (mcoe : (Nat → Int32)), ∀ (H : Heap) (locs : List Loc) (ls : Array Slot), wl_X10_begin_46  K X n v3 mpic mcoe → va_P D vwCl [(a_mo, .inr (10, [.int ma, .int md, .ref a_mo2, .ref a_mo3, .ref a_mo4, .ref a_mo5, .ref a_mo6, .ref a_mo7, .ref a_mo8, .int mq, .int mz, .ref a_mo11, .int msz, .int mat, .int mpl, .int mfa, .ref a_mo16, .int mth])), (a_mo2, .inl (cI, 1024, .inl mpic)), (a_mo3, .inl (cI, 1024, .inl mgiv)), (a_mo4, .inl (cI, 1024, .inl mkep)), (a_mo5, .inl (cI, 64, .inl mmod)), (a_mo6, .inl (cI, 1024, .inl mcoe)), (a_mo7, .inl (cI, 64, .inl mnmo)), (a_mo8, .inl (cI, 1024, .inl mnco)), (a_mo11, .inl (cI, 8000, .inl mby)), (a_mo16, .inl (cI, 16, .inl mwk))] H → va_D A [(a_mo, .inr (10, [.int ma, .int md, .ref a_mo2, .ref a_mo3, .ref a_mo4, .ref a_mo5, .ref a_mo6, .ref a_mo7, .ref a_mo8, .int mq, .int mz, .ref a_mo11, .int msz, .int mat, .int mpl, .int mfa, .ref a_mo16, .int mth])), (a_mo2, .inl (cI, 1024, .inl mpic)), (a_mo3, .inl (cI, 1024, .inl mgiv)), (a_mo4, .inl (cI, 1024, .inl mkep)), (a_mo5, .inl (cI, 64, .inl mmod)), (a_mo6, .inl (cI, 1024, .inl mcoe)), (a_mo7, .inl (cI, 64, .inl mnmo)), (a_mo8, .inl (cI, 1024, .inl mnco)), (a_mo11, .inl (cI, 8000, .inl mby)), (a_mo16, .inl (cI, 16, .inl mwk))] → va_S A s.heap H locs → lv_has ls 4 [(0, .ref a_mo), (1, .int v1), (2, .int v2), (3, .int v3)] → W p l e rmX10_begin s m args below meth c H locs 0 0 Q (F0 m 46 ls []) := by
        intro v1 v2 ma md mq mz mth mmod X hX n
        induction n with
        | zero => intro v3 mpic mcoe H locs ls h; rw [wl_X10_begin_46] at h; exact h.elim
        | succ n ih =>
          intro v3 mpic mcoe H locs ls h hP hD hS hl
          rw [wl_X10_begin_46] at h
          refine lv_iload_n hx hb dX10_begin_46 rfl (lv_at hl 3 rfl) ?_
          refine lv_sipush (v := 1024) hx hb dX10_begin_47 (by decide) ?_
          refine lv_icmp_ge (tgt := 73) hx hb dX10_begin_50 (by decide) (fun c_7 => ?_) (fun c_7 => ?_)
          · have h := h.1 c_7
            exact hX v3 mpic mcoe H _ _ h hP hD hS (lv_sub hl [0, 1, 2, 3] rfl)
          · have h := h.2 c_7
            refine lv_aload_n hx hb dX10_begin_53 rfl (lv_at hl 0 rfl) ?_
            refine va_get (D := D) (ci := 10) (v := .ref a_mo2) (C := RX10) (T := TX10) (N := 18) hx hb hts iX10 hown hK hP 0 rfl rfl 2 (by decide) lk16 (fun _ h9 => h9) rfl dX10_begin_54 ?_
            refine lv_iload_n hx hb dX10_begin_57 rfl (lv_at hl 3 rfl) ?_
            refine lv_iconst (v := 0) hx hb dX10_begin_58 (by decide) ?_
            obtain ⟨hi_8, h⟩ := h
            refine va_iast hx hb hK hP hD hS 1 0 rfl rfl hi_8 dX10_begin_59 (fun H_9 locs hP hD hS => ?_)
            have hP : va_P D vwCl [(a_mo, .inr (10, [.int ma, .int md, .ref a_mo2, .ref a_mo3, .ref a_mo4, .ref a_mo5, .ref a_mo6, .ref a_mo7, .ref a_mo8, .int mq, .int mz, .ref a_mo11, .int msz, .int mat, .int mpl, .int mfa, .ref a_mo16, .int mth])), (a_mo2, .inl (cI, 1024, .inl (jup mpic v3 0))), (a_mo3, .inl (cI, 1024, .inl mgiv)), (a_mo4, .inl (cI, 1024, .inl mkep)), (a_mo5, .inl (cI, 64, .inl mmod)), (a_mo6, .inl (cI, 1024, .inl mcoe)), (a_mo7, .inl (cI, 64, .inl mnmo)), (a_mo8, .inl (cI, 1024, .inl mnco)), (a_mo11, .inl (cI, 8000, .inl mby)), (a_mo16, .inl (cI, 16, .inl mwk))] H_9 := hP
            have hD : va_D A [(a_mo, .inr (10, [.int ma, .int md, .ref a_mo2, .ref a_mo3, .ref a_mo4, .ref a_mo5, .ref a_mo6, .ref a_mo7, .ref a_mo8, .int mq, .int mz, .ref a_mo11, .int msz, .int mat, .int mpl, .int mfa, .ref a_mo16, .int mth])), (a_mo2, .inl (cI, 1024, .inl (jup mpic v3 0))), (a_mo3, .inl (cI, 1024, .inl mgiv)), (a_mo4, .inl (cI, 1024, .inl mkep)), (a_mo5, .inl (cI, 64, .inl mmod)), (a_mo6, .inl (cI, 1024, .inl mcoe)), (a_mo7, .inl (cI, 64, .inl mnmo)), (a_mo8, .inl (cI, 1024, .inl mnco)), (a_mo11, .inl (cI, 8000, .inl mby)), (a_mo16, .inl (cI, 16, .inl mwk))] := hD
            refine lv_aload_n hx hb dX10_begin_60 rfl (lv_at hl 0 rfl) ?_
            refine va_get (D := D) (ci := 10) (v := .ref a_mo6) (C := RX10) (T := TX10) (N := 18) hx hb hts iX10 hown hK hP 0 rfl rfl 6 (by decide) lk29 (fun _ h9 => h9) rfl dX10_begin_61 ?_
            refine lv_iload_n hx hb dX10_begin_64 rfl (lv_at hl 3 rfl) ?_
            refine lv_iconst (v := 0) hx hb dX10_begin_65 (by decide) ?_
            obtain ⟨hi_10, h⟩ := h
            refine va_iast hx hb hK hP hD hS 5 0 rfl rfl hi_10 dX10_begin_66 (fun H_11 locs hP hD hS => ?_)
            have hP : va_P D vwCl [(a_mo, .inr (10, [.int ma, .int md, .ref a_mo2, .ref a_mo3, .ref a_mo4, .ref a_mo5, .ref a_mo6, .ref a_mo7, .ref a_mo8, .int mq, .int mz, .ref a_mo11, .int msz, .int mat, .int mpl, .int mfa, .ref a_mo16, .int mth])), (a_mo2, .inl (cI, 1024, .inl (jup mpic v3 0))), (a_mo3, .inl (cI, 1024, .inl mgiv)), (a_mo4, .inl (cI, 1024, .inl mkep)), (a_mo5, .inl (cI, 64, .inl mmod)), (a_mo6, .inl (cI, 1024, .inl (jup mcoe v3 0))), (a_mo7, .inl (cI, 64, .inl mnmo)), (a_mo8, .inl (cI, 1024, .inl mnco)), (a_mo11, .inl (cI, 8000, .inl mby)), (a_mo16, .inl (cI, 16, .inl mwk))] H_11 := hP
            have hD : va_D A [(a_mo, .inr (10, [.int ma, .int md, .ref a_mo2, .ref a_mo3, .ref a_mo4, .ref a_mo5, .ref a_mo6, .ref a_mo7, .ref a_mo8, .int mq, .int mz, .ref a_mo11, .int msz, .int mat, .int mpl, .int mfa, .ref a_mo16, .int mth])), (a_mo2, .inl (cI, 1024, .inl (jup mpic v3 0))), (a_mo3, .inl (cI, 1024, .inl mgiv)), (a_mo4, .inl (cI, 1024, .inl mkep)), (a_mo5, .inl (cI, 64, .inl mmod)), (a_mo6, .inl (cI, 1024, .inl (jup mcoe v3 0))), (a_mo7, .inl (cI, 64, .inl mnmo)), (a_mo8, .inl (cI, 1024, .inl mnco)), (a_mo11, .inl (cI, 8000, .inl mby)), (a_mo16, .inl (cI, 16, .inl mwk))] := hD
            obtain ⟨x3_12, ex3_12⟩ : ∃ y : Int32, y = v3 + 1 := ⟨_, rfl⟩
            have h := h x3_12 ex3_12
            refine lv_iinc (v := x3_12) (lv' := [(3, .int x3_12), (0, .ref a_mo), (1, .int v1), (2, .int v2)]) hx hb dX10_begin_67 hl (k := 3) rfl (by rw [ex3_12]; rfl) (by decide) rfl (fun ls hl => ?_)
            refine lv_goto (tgt := 46) hx hb dX10_begin_70 (by decide) ?_
            exact ih x3_12 (jup mpic v3 0) (jup mcoe v3 0) H_11 _ _ h hP hD hS (lv_sub hl [1, 2, 3, 0] rfl)
      refine hL_13 v1 v2 v1 v2 mq mz mth_3 mmod _ ?_ n_13 0 mpic mcoe H_6 _ _ h hP hD hS (lv_sub hl [1, 2, 3, 0] rfl)
      intro v3_13 mpic_13 mcoe_13 H locs ls h hP hD hS hl
      refine lv_iconst (v := 0) hx hb dX10_begin_73 (by decide) ?_
      refine lv_istore_n (lv' := [(3, .int 0), (0, .ref a_mo), (1, .int v1), (2, .int v2)]) hx hb dX10_begin_74 rfl hl (by decide) rfl (fun ls hl => ?_)
      obtain ⟨n_18, h⟩ := h
      have hL_18 : ∀ (v1 : Int32) (v2 : Int32) (ma : Int32) (md : Int32) (mq : Int32) (mz : Int32) (mth : Int32) (mpic : (Nat → Int32)) (mcoe : (Nat → Int32)) (X : Int32 → (Nat → Int32) → Prop), (∀ (v3 : Int32) (mmod : (Nat → Int32)), ∀ (H : Heap) (locs : List Loc) (ls : Array Slot), X v3 mmod → va_P D vwCl [(a_mo, .inr (10, [.int ma, .int md, .ref a_mo2, .ref a_mo3, .ref a_mo4, .ref a_mo5, .ref a_mo6, .ref a_mo7, .ref a_mo8, .int mq, .int mz, .ref a_mo11, .int msz, .int mat, .int mpl, .int mfa, .ref a_mo16, .int mth])), (a_mo2, .inl (cI, 1024, .inl mpic)), (a_mo3, .inl (cI, 1024, .inl mgiv)), (a_mo4, .inl (cI, 1024, .inl mkep)), (a_mo5, .inl (cI, 64, .inl mmod)), (a_mo6, .inl (cI, 1024, .inl mcoe)), (a_mo7, .inl (cI, 64, .inl mnmo)), (a_mo8, .inl (cI, 1024, .inl mnco)), (a_mo11, .inl (cI, 8000, .inl mby)), (a_mo16, .inl (cI, 16, .inl mwk))] H → va_D A [(a_mo, .inr (10, [.int ma, .int md, .ref a_mo2, .ref a_mo3, .ref a_mo4, .ref a_mo5, .ref a_mo6, .ref a_mo7, .ref a_mo8, .int mq, .int mz, .ref a_mo11, .int msz, .int mat, .int mpl, .int mfa, .ref a_mo16, .int mth])), (a_mo2, .inl (cI, 1024, .inl mpic)), (a_mo3, .inl (cI, 1024, .inl mgiv)), (a_mo4, .inl (cI, 1024, .inl mkep)), (a_mo5, .inl (cI, 64, .inl mmod)), (a_mo6, .inl (cI, 1024, .inl mcoe)), (a_mo7, .inl (cI, 64, .inl mnmo)), (a_mo8, .inl (cI, 1024, .inl mnco)), (a_mo11, .inl (cI, 8000, .inl mby)), (a_mo16, .inl (cI, 16, .inl mwk))] → va_S A s.heap H locs → lv_has ls 4 [(0, .ref a_mo), (1, .int v1), (2, .int v2), (3, .int v3)] → W p l e rmX10_begin s m args below meth c H locs 0 0 Q (F0 m 94 ls [])) → ∀ (n : Nat) (v3 : Int32) (mmod : (Nat → Int32)), ∀ (H : Heap) (locs : List Loc) (ls : Array Slot), wl_X10_begin_75  K X n v3 mmod → va_P D vwCl [(a_mo, .inr (10, [.int ma, .int md, .ref a_mo2, .ref a_mo3, .ref a_mo4, .ref a_mo5, .ref a_mo6, .ref a_mo7, .ref a_mo8, .int mq, .int mz, .ref a_mo11, .int msz, .int mat, .int mpl, .int mfa, .ref a_mo16, .int mth])), (a_mo2, .inl (cI, 1024, .inl mpic)), (a_mo3, .inl (cI, 1024, .inl mgiv)), (a_mo4, .inl (cI, 1024, .inl mkep)), (a_mo5, .inl (cI, 64, .inl mmod)), (a_mo6, .inl (cI, 1024, .inl mcoe)), (a_mo7, .inl (cI, 64, .inl mnmo)), (a_mo8, .inl (cI, 1024, .inl mnco)), (a_mo11, .inl (cI, 8000, .inl mby)), (a_mo16, .inl (cI, 16, .inl mwk))] H → va_D A [(a_mo, .inr (10, [.int ma, .int md, .ref a_mo2, .ref a_mo3, .ref a_mo4, .ref a_mo5, .ref a_mo6, .ref a_mo7, .ref a_mo8, .int mq, .int mz, .ref a_mo11, .int msz, .int mat, .int mpl, .int mfa, .ref a_mo16, .int mth])), (a_mo2, .inl (cI, 1024, .inl mpic)), (a_mo3, .inl (cI, 1024, .inl mgiv)), (a_mo4, .inl (cI, 1024, .inl mkep)), (a_mo5, .inl (cI, 64, .inl mmod)), (a_mo6, .inl (cI, 1024, .inl mcoe)), (a_mo7, .inl (cI, 64, .inl mnmo)), (a_mo8, .inl (cI, 1024, .inl mnco)), (a_mo11, .inl (cI, 8000, .inl mby)), (a_mo16, .inl (cI, 16, .inl mwk))] → va_S A s.heap H locs → lv_has ls 4 [(0, .ref a_mo), (1, .int v1), (2, .int v2), (3, .int v3)] → W p l e rmX10_begin s m args below meth c H locs 0 0 Q (F0 m 75 ls []) := by
        intro v1 v2 ma md mq mz mth mpic mcoe X hX n
        induction n with
        | zero => intro v3 mmod H locs ls h; rw [wl_X10_begin_75] at h; exact h.elim
        | succ n ih =>
          intro v3 mmod H locs ls h hP hD hS hl
          rw [wl_X10_begin_75] at h
          refine lv_iload_n hx hb dX10_begin_75 rfl (lv_at hl 3 rfl) ?_
          refine lv_bipush (v := 64) hx hb dX10_begin_76 (by decide) ?_
          refine lv_icmp_ge (tgt := 94) hx hb dX10_begin_78 (by decide) (fun c_14 => ?_) (fun c_14 => ?_)
          · have h := h.1 c_14
            exact hX v3 mmod H _ _ h hP hD hS (lv_sub hl [0, 1, 2, 3] rfl)
          · have h := h.2 c_14
            refine lv_aload_n hx hb dX10_begin_81 rfl (lv_at hl 0 rfl) ?_
            refine va_get (D := D) (ci := 10) (v := .ref a_mo5) (C := RX10) (T := TX10) (N := 18) hx hb hts iX10 hown hK hP 0 rfl rfl 5 (by decide) lk26 (fun _ h9 => h9) rfl dX10_begin_82 ?_
            refine lv_iload_n hx hb dX10_begin_85 rfl (lv_at hl 3 rfl) ?_
            refine lv_iconst (v := (-1)) hx hb dX10_begin_86 (by decide) ?_
            obtain ⟨hi_15, h⟩ := h
            refine va_iast hx hb hK hP hD hS 4 0 rfl rfl hi_15 dX10_begin_87 (fun H_16 locs hP hD hS => ?_)
            have hP : va_P D vwCl [(a_mo, .inr (10, [.int ma, .int md, .ref a_mo2, .ref a_mo3, .ref a_mo4, .ref a_mo5, .ref a_mo6, .ref a_mo7, .ref a_mo8, .int mq, .int mz, .ref a_mo11, .int msz, .int mat, .int mpl, .int mfa, .ref a_mo16, .int mth])), (a_mo2, .inl (cI, 1024, .inl mpic)), (a_mo3, .inl (cI, 1024, .inl mgiv)), (a_mo4, .inl (cI, 1024, .inl mkep)), (a_mo5, .inl (cI, 64, .inl (jup mmod v3 (-1)))), (a_mo6, .inl (cI, 1024, .inl mcoe)), (a_mo7, .inl (cI, 64, .inl mnmo)), (a_mo8, .inl (cI, 1024, .inl mnco)), (a_mo11, .inl (cI, 8000, .inl mby)), (a_mo16, .inl (cI, 16, .inl mwk))] H_16 := hP
            have hD : va_D A [(a_mo, .inr (10, [.int ma, .int md, .ref a_mo2, .ref a_mo3, .ref a_mo4, .ref a_mo5, .ref a_mo6, .ref a_mo7, .ref a_mo8, .int mq, .int mz, .ref a_mo11, .int msz, .int mat, .int mpl, .int mfa, .ref a_mo16, .int mth])), (a_mo2, .inl (cI, 1024, .inl mpic)), (a_mo3, .inl (cI, 1024, .inl mgiv)), (a_mo4, .inl (cI, 1024, .inl mkep)), (a_mo5, .inl (cI, 64, .inl (jup mmod v3 (-1)))), (a_mo6, .inl (cI, 1024, .inl mcoe)), (a_mo7, .inl (cI, 64, .inl mnmo)), (a_mo8, .inl (cI, 1024, .inl mnco)), (a_mo11, .inl (cI, 8000, .inl mby)), (a_mo16, .inl (cI, 16, .inl mwk))] := hD
            obtain ⟨x3_17, ex3_17⟩ : ∃ y : Int32, y = v3 + 1 := ⟨_, rfl⟩
            have h := h x3_17 ex3_17
            refine lv_iinc (v := x3_17) (lv' := [(3, .int x3_17), (0, .ref a_mo), (1, .int v1), (2, .int v2)]) hx hb dX10_begin_88 hl (k := 3) rfl (by rw [ex3_17]; rfl) (by decide) rfl (fun ls hl => ?_)
            refine lv_goto (tgt := 75) hx hb dX10_begin_91 (by decide) ?_
            exact ih x3_17 (jup mmod v3 (-1)) H_16 _ _ h hP hD hS (lv_sub hl [1, 2, 3, 0] rfl)
      refine hL_18 v1 v2 v1 v2 mq mz mth_3 mpic_13 mcoe_13 _ ?_ n_18 0 mmod H _ _ h hP hD hS (lv_sub hl [1, 2, 3, 0] rfl)
      intro v3_18 mmod_18 H locs ls h hP hD hS hl
      refine lv_aload_n hx hb dX10_begin_94 rfl (lv_at hl 0 rfl) ?_
      refine lv_iconst (v := 0) hx hb dX10_begin_95 (by decide) ?_
      refine va_put (D := D) (ci := 10) (v := .int 0) (ty := .int) (C := RX10) (T := TX10) (N := 18) hx hb hts iX10 tyX10 tyX10_ok nmX10 hown hK hP hD hS 0 rfl rfl 9 (by decide) lk58 (fun _ h9 => h9) rfl (by decide +kernel) rfl rfl (Nat.le_of_ble_eq_true rfl) dX10_begin_96 (fun H_19 locs hP hD hS => ?_)
      have hP : va_P D vwCl [(a_mo, .inr (10, [.int v1, .int v2, .ref a_mo2, .ref a_mo3, .ref a_mo4, .ref a_mo5, .ref a_mo6, .ref a_mo7, .ref a_mo8, .int 0, .int mz, .ref a_mo11, .int msz, .int mat, .int mpl, .int mfa, .ref a_mo16, .int mth_3])), (a_mo2, .inl (cI, 1024, .inl mpic_13)), (a_mo3, .inl (cI, 1024, .inl mgiv)), (a_mo4, .inl (cI, 1024, .inl mkep)), (a_mo5, .inl (cI, 64, .inl mmod_18)), (a_mo6, .inl (cI, 1024, .inl mcoe_13)), (a_mo7, .inl (cI, 64, .inl mnmo)), (a_mo8, .inl (cI, 1024, .inl mnco)), (a_mo11, .inl (cI, 8000, .inl mby)), (a_mo16, .inl (cI, 16, .inl mwk))] H_19 := hP
      have hD : va_D A [(a_mo, .inr (10, [.int v1, .int v2, .ref a_mo2, .ref a_mo3, .ref a_mo4, .ref a_mo5, .ref a_mo6, .ref a_mo7, .ref a_mo8, .int 0, .int mz, .ref a_mo11, .int msz, .int mat, .int mpl, .int mfa, .ref a_mo16, .int mth_3])), (a_mo2, .inl (cI, 1024, .inl mpic_13)), (a_mo3, .inl (cI, 1024, .inl mgiv)), (a_mo4, .inl (cI, 1024, .inl mkep)), (a_mo5, .inl (cI, 64, .inl mmod_18)), (a_mo6, .inl (cI, 1024, .inl mcoe_13)), (a_mo7, .inl (cI, 64, .inl mnmo)), (a_mo8, .inl (cI, 1024, .inl mnco)), (a_mo11, .inl (cI, 8000, .inl mby)), (a_mo16, .inl (cI, 16, .inl mwk))] := hD
      refine lv_aload_n hx hb dX10_begin_99 rfl (lv_at hl 0 rfl) ?_
      refine lv_iconst (v := 0) hx hb dX10_begin_100 (by decide) ?_
      refine va_put (D := D) (ci := 10) (v := .int 0) (ty := .boolean) (C := RX10) (T := TX10) (N := 18) hx hb hts iX10 tyX10 tyX10_ok nmX10 hown hK hP hD hS 0 rfl rfl 10 (by decide) lk61 (fun _ h9 => h9) rfl (by decide +kernel) (by decide) (by decide) (Nat.le_of_ble_eq_true rfl) dX10_begin_101 (fun H_20 locs hP hD hS => ?_)
      have hP : va_P D vwCl [(a_mo, .inr (10, [.int v1, .int v2, .ref a_mo2, .ref a_mo3, .ref a_mo4, .ref a_mo5, .ref a_mo6, .ref a_mo7, .ref a_mo8, .int 0, .int 0, .ref a_mo11, .int msz, .int mat, .int mpl, .int mfa, .ref a_mo16, .int mth_3])), (a_mo2, .inl (cI, 1024, .inl mpic_13)), (a_mo3, .inl (cI, 1024, .inl mgiv)), (a_mo4, .inl (cI, 1024, .inl mkep)), (a_mo5, .inl (cI, 64, .inl mmod_18)), (a_mo6, .inl (cI, 1024, .inl mcoe_13)), (a_mo7, .inl (cI, 64, .inl mnmo)), (a_mo8, .inl (cI, 1024, .inl mnco)), (a_mo11, .inl (cI, 8000, .inl mby)), (a_mo16, .inl (cI, 16, .inl mwk))] H_20 := hP
      have hD : va_D A [(a_mo, .inr (10, [.int v1, .int v2, .ref a_mo2, .ref a_mo3, .ref a_mo4, .ref a_mo5, .ref a_mo6, .ref a_mo7, .ref a_mo8, .int 0, .int 0, .ref a_mo11, .int msz, .int mat, .int mpl, .int mfa, .ref a_mo16, .int mth_3])), (a_mo2, .inl (cI, 1024, .inl mpic_13)), (a_mo3, .inl (cI, 1024, .inl mgiv)), (a_mo4, .inl (cI, 1024, .inl mkep)), (a_mo5, .inl (cI, 64, .inl mmod_18)), (a_mo6, .inl (cI, 1024, .inl mcoe_13)), (a_mo7, .inl (cI, 64, .inl mnmo)), (a_mo8, .inl (cI, 1024, .inl mnco)), (a_mo11, .inl (cI, 8000, .inl mby)), (a_mo16, .inl (cI, 16, .inl mwk))] := hD
      exact hret (v1, v2, 0, 0, mth_3, mpic_13, mmod_18, mcoe_13) _ _ _ _ dX10_begin_104 h hP hD hS
    · have h := h.2 c_4
      exact hret (ma, md, mq, mz, mth_3, mpic, mmod, mcoe) _ _ _ _ dX10_begin_33 h hP hD hS
  obtain ⟨J_21, hj_21, h⟩ := jn0_out h
  have hJ_21 : ∀ (H : Heap) (locs : List Loc) (ls : Array Slot), J_21 → va_P D vwCl [(a_mo, .inr (10, [.int ma, .int md, .ref a_mo2, .ref a_mo3, .ref a_mo4, .ref a_mo5, .ref a_mo6, .ref a_mo7, .ref a_mo8, .int mq, .int mz, .ref a_mo11, .int msz, .int mat, .int mpl, .int mfa, .ref a_mo16, .int mth])), (a_mo2, .inl (cI, 1024, .inl mpic)), (a_mo3, .inl (cI, 1024, .inl mgiv)), (a_mo4, .inl (cI, 1024, .inl mkep)), (a_mo5, .inl (cI, 64, .inl mmod)), (a_mo6, .inl (cI, 1024, .inl mcoe)), (a_mo7, .inl (cI, 64, .inl mnmo)), (a_mo8, .inl (cI, 1024, .inl mnco)), (a_mo11, .inl (cI, 8000, .inl mby)), (a_mo16, .inl (cI, 16, .inl mwk))] H → va_D A [(a_mo, .inr (10, [.int ma, .int md, .ref a_mo2, .ref a_mo3, .ref a_mo4, .ref a_mo5, .ref a_mo6, .ref a_mo7, .ref a_mo8, .int mq, .int mz, .ref a_mo11, .int msz, .int mat, .int mpl, .int mfa, .ref a_mo16, .int mth])), (a_mo2, .inl (cI, 1024, .inl mpic)), (a_mo3, .inl (cI, 1024, .inl mgiv)), (a_mo4, .inl (cI, 1024, .inl mkep)), (a_mo5, .inl (cI, 64, .inl mmod)), (a_mo6, .inl (cI, 1024, .inl mcoe)), (a_mo7, .inl (cI, 64, .inl mnmo)), (a_mo8, .inl (cI, 1024, .inl mnco)), (a_mo11, .inl (cI, 8000, .inl mby)), (a_mo16, .inl (cI, 16, .inl mwk))] → va_S A s.heap H locs → lv_has ls 4 [(0, .ref a_mo), (1, .int v1), (2, .int v2)] → W p l e rmX10_begin s m args below meth c H locs 0 0 Q (F0 m 21 ls [.ref a_mo]) := by
    intro  H locs ls h hP hD hS hl
    have h := hj_21 h
    refine lv_iconst (v := 1) hx hb dX10_begin_21 (by decide) ?_
    refine lv_goto (tgt := 26) hx hb dX10_begin_22 (by decide) ?_
    exact hJ_2 1 H _ _ h hP hD hS (lv_sub hl [0, 1, 2] rfl)
  refine lv_if_eq (tgt := 21) hx hb dX10_begin_8 (by decide) (fun c_22 => ?_) (fun c_22 => ?_)
  · have h := h.1 c_22
    exact hJ_21  H_1 _ _ h hP hD hS (lv_sub hl [0, 1, 2] rfl)
  · have h := h.2 c_22
    refine lv_iload_n hx hb dX10_begin_11 rfl (lv_at hl 2 rfl) ?_
    refine lv_iconst (v := 1) hx hb dX10_begin_12 (by decide) ?_
    refine lv_bipush (v := 8) hx hb dX10_begin_13 (by decide) ?_
    have hPc := hP.sub (ws' := []) [] rfl
    have hDc := hD.sub (ws' := []) [] (by decide) rfl
    have hFc := va_free (wc := []) hD hS hA [] rfl
    refine jm_calli (wr := [(a_mo, .inr (10, [.int ma, .int md, .ref a_mo2, .ref a_mo3, .ref a_mo4, .ref a_mo5, .ref a_mo6, .ref a_mo7, .ref a_mo8, .int mq, .int mz, .ref a_mo11, .int msz, .int mat, .int mpl, .int mfa, .ref a_mo16, .int mth])), (a_mo2, .inl (cI, 1024, .inl mpic)), (a_mo3, .inl (cI, 1024, .inl mgiv)), (a_mo4, .inl (cI, 1024, .inl mkep)), (a_mo5, .inl (cI, 64, .inl mmod)), (a_mo6, .inl (cI, 1024, .inl mcoe)), (a_mo7, .inl (cI, 64, .inl mnmo)), (a_mo8, .inl (cI, 1024, .inl mnco)), (a_mo11, .inl (cI, 8000, .inl mby)), (a_mo16, .inl (cI, 16, .inl mwk))]) (va_runS (As := [.int v2, .int 1, .int 8]) (rest := [.ref a_mo]) ⟨hx, hb, hml, hown, hts⟩ (c_X10_within l D cI cB tt H_1.size v2 1 8 h) (va_cwS 3 hts (jm_gS mw_797 mw_798 mw_65 mw_799) rfl rfl rfl (by decide +kernel) ⟨Nat.le_of_ble_eq_true rfl, Nat.le_of_ble_eq_true rfl⟩) ⟨jm_blind, jm_pre hK hE hS hPc hDc hFc _⟩ rfl rfl hl.1 rfl (lv_room (Nat.le_of_ble_eq_true rfl)) dX10_begin_15 ⟨Nat.zero_le _, Nat.zero_le _⟩) hS hP hD [] [0, 1, 2, 3, 4, 5, 6, 7, 8, 9] rfl rfl (by decide) (by decide) hFc (fun r_23 u_23 H_23 locs hw hP hD hS => ?_)
    have h := hw
    have hP : va_P D vwCl [(a_mo, .inr (10, [.int ma, .int md, .ref a_mo2, .ref a_mo3, .ref a_mo4, .ref a_mo5, .ref a_mo6, .ref a_mo7, .ref a_mo8, .int mq, .int mz, .ref a_mo11, .int msz, .int mat, .int mpl, .int mfa, .ref a_mo16, .int mth])), (a_mo2, .inl (cI, 1024, .inl mpic)), (a_mo3, .inl (cI, 1024, .inl mgiv)), (a_mo4, .inl (cI, 1024, .inl mkep)), (a_mo5, .inl (cI, 64, .inl mmod)), (a_mo6, .inl (cI, 1024, .inl mcoe)), (a_mo7, .inl (cI, 64, .inl mnmo)), (a_mo8, .inl (cI, 1024, .inl mnco)), (a_mo11, .inl (cI, 8000, .inl mby)), (a_mo16, .inl (cI, 16, .inl mwk))] H_23 := hP.sub [0, 1, 2, 3, 4, 5, 6, 7, 8, 9] rfl
    have hD : va_D A [(a_mo, .inr (10, [.int ma, .int md, .ref a_mo2, .ref a_mo3, .ref a_mo4, .ref a_mo5, .ref a_mo6, .ref a_mo7, .ref a_mo8, .int mq, .int mz, .ref a_mo11, .int msz, .int mat, .int mpl, .int mfa, .ref a_mo16, .int mth])), (a_mo2, .inl (cI, 1024, .inl mpic)), (a_mo3, .inl (cI, 1024, .inl mgiv)), (a_mo4, .inl (cI, 1024, .inl mkep)), (a_mo5, .inl (cI, 64, .inl mmod)), (a_mo6, .inl (cI, 1024, .inl mcoe)), (a_mo7, .inl (cI, 64, .inl mnmo)), (a_mo8, .inl (cI, 1024, .inl mnco)), (a_mo11, .inl (cI, 8000, .inl mby)), (a_mo16, .inl (cI, 16, .inl mwk))] := hD.sub [0, 1, 2, 3, 4, 5, 6, 7, 8, 9] (by decide) rfl
    refine lv_if_ne (tgt := 25) hx hb dX10_begin_18 (by decide) (fun c_24 => ?_) (fun c_24 => ?_)
    · have h := h.2 c_24
      refine lv_iconst (v := 0) hx hb dX10_begin_25 (by decide) ?_
      exact hJ_2 0 H_23 _ _ h hP hD hS (lv_sub hl [0, 1, 2] rfl)
    · have h := h.1 c_24
      exact hJ_21  H_23 _ _ h hP hD hS (lv_sub hl [0, 1, 2] rfl)
def wl_X10_put_47 (v1 : Int32) (v2 : Int32) (v3 : Int32) (K : Int32 → (Nat → Int32) → Prop) (X : Int32 → (Nat → Int32) → Prop) : Nat → Int32 → (Nat → Int32) → Prop
  | 0, _, _ => False
  | n + 1, v4, mpic => ((4 ≤ v4 → X v4 mpic) ∧ (¬ 4 ≤ v4 → vp_in (((32 * v2) + (4 * v1)) + v4) 1024 ∧ ∀ x4_8 : Int32, x4_8 = v4 + 1 → wl_X10_put_47 v1 v2 v3 K X n x4_8 (jup mpic (((32 * v2) + (4 * v1)) + v4) ((v3 >>> ((24 - (8 * v4)) &&& 31)) &&& 255))))
def wp_X10_put (ma : Int32) (md : Int32) (mth : Int32) (mpic : (Nat → Int32)) (v1 v2 v3 : Int32) (K : Int32 → (Nat → Int32) → Prop) : Prop := wp_X10_within v1 0 (ma - 1) (fun (r_1 : Int32) => jn1 (fun (t0_2 : Int32) => wp_X10_fails mth t0_2 1 (fun (r_3 : Int32) (mth_3 : Int32) => ((r_3 = 0 → ∃ k : Nat, wl_X10_put_47 v1 v2 v3 K (fun (v4_9 : Int32) (mpic_9 : (Nat → Int32)) => K mth_3 mpic_9) k 0 mpic) ∧ (¬ r_3 = 0 → K mth_3 mpic)))) (fun J_2 => jn0 (J_2 1) (fun J_10 => ((r_1 = 0 → J_10) ∧ (¬ r_1 = 0 → wp_X10_within v2 0 ((4 * md) - 1) (fun (r_12 : Int32) => ((r_12 = 0 → J_10) ∧ (¬ r_12 = 0 → J_2 0))))))))
abbrev jw_X10_put : List Cond := .code yX10_put cX10_put 5 none :: jmAll
abbrev rmX10_put : Room := { frames := 1, cells := 0, slots := 0, locals := 22 }
set_option maxHeartbeats 4000000 in
set_option maxRecDepth 100000 in
theorem c_X10_put (l : Launch) (D : va_G) (cI cB : ClassId) (tt : Nat × Nat × Nat) (a_mo a_mo2 a_mo3 a_mo4 a_mo5 a_mo6 a_mo7 a_mo8 a_mo11 a_mo16 : Nat) (sz : Nat) (ma : Int32) (md : Int32) (mq : Int32) (mz : Int32) (msz : Int32) (mat : Int32) (mpl : Int32) (mfa : Int32) (mth : Int32) (mpic : (Nat → Int32)) (mgiv : (Nat → Int32)) (mkep : (Nat → Int32)) (mmod : (Nat → Int32)) (mcoe : (Nat → Int32)) (mnmo : (Nat → Int32)) (mnco : (Nat → Int32)) (mby : (Nat → Int32)) (mwk : (Nat → Int32)) (v1 v2 v3 : Int32) {K : Int32 → (Nat → Int32) → Prop} (h : wp_X10_put ma md mth mpic v1 v2 v3 K) : Met l yX10_put jw_X10_put rmX10_put (va_Pc [.ref a_mo, .int v1, .int v2, .int v3] (jm_Pre D cI cB tt (wd_mo_mo2_mo3_mo4_mo5_mo6_mo7_mo8_mo11_mo16 cI cB a_mo a_mo2 a_mo3 a_mo4 a_mo5 a_mo6 a_mo7 a_mo8 a_mo11 a_mo16 ma md mq mz msz mat mpl mfa mth mpic mgiv mkep mmod mcoe mnmo mnco mby mwk) sz)) (va_Qv (fun (u : Int32 × (Nat → Int32)) => pr2 K u) (jm_Post D cI cB (wd_mo_mo2_mo3_mo4_mo5_mo6_mo7_mo8_mo11_mo16 cI cB a_mo a_mo2 a_mo3 a_mo4 a_mo5 a_mo6 a_mo7 a_mo8 a_mo11 a_mo16 ma md mq mz msz mat mpl mfa mth mpic mgiv mkep mmod mcoe mnmo mnco mby mwk) sz (fun (u : Int32 × (Nat → Int32)) => wd_mo_mo2_mo3_mo4_mo5_mo6_mo7_mo8_mo11_mo16 cI cB a_mo a_mo2 a_mo3 a_mo4 a_mo5 a_mo6 a_mo7 a_mo8 a_mo11 a_mo16 ma md mq mz msz mat mpl mfa u.1 u.2 mgiv mkep mmod mcoe mnmo mnco mby mwk)) (va_A (wd_mo_mo2_mo3_mo4_mo5_mo6_mo7_mo8_mo11_mo16 cI cB a_mo a_mo2 a_mo3 a_mo4 a_mo5 a_mo6 a_mo7 a_mo8 a_mo11 a_mo16 ma md mq mz msz mat mpl mfa mth mpic mgiv mkep mmod mcoe mnmo mnco mby mwk) sz)) 0 0 (va_A (wd_mo_mo2_mo3_mo4_mo5_mo6_mo7_mo8_mo11_mo16 cI cB a_mo a_mo2 a_mo3 a_mo4 a_mo5 a_mo6 a_mo7 a_mo8 a_mo11 a_mo16 ma md mq mz msz mat mpl mfa mth mpic mgiv mkep mmod mcoe mnmo mnco mby mwk) sz) := by
  refine jm_metV (by decide +kernel) rfl rfl (Nat.le_of_ble_eq_true rfl) ?_
  intro p e s m args below meth c A Q ls C0 hP hD hl hret
  obtain ⟨hx, hb, hml, hr, hown, hts, hlocks, hA, hK, hE⟩ := C0
  have hS : va_S A s.heap s.heap [] := va_S.rf
  have hl : lv_has ls 5 [(0, .ref a_mo), (1, .int v1), (2, .int v2), (3, .int v3)] := hl
  unfold wp_X10_put at h
  have hP : va_P D vwCl [(a_mo, .inr (10, [.int ma, .int md, .ref a_mo2, .ref a_mo3, .ref a_mo4, .ref a_mo5, .ref a_mo6, .ref a_mo7, .ref a_mo8, .int mq, .int mz, .ref a_mo11, .int msz, .int mat, .int mpl, .int mfa, .ref a_mo16, .int mth])), (a_mo2, .inl (cI, 1024, .inl mpic)), (a_mo3, .inl (cI, 1024, .inl mgiv)), (a_mo4, .inl (cI, 1024, .inl mkep)), (a_mo5, .inl (cI, 64, .inl mmod)), (a_mo6, .inl (cI, 1024, .inl mcoe)), (a_mo7, .inl (cI, 64, .inl mnmo)), (a_mo8, .inl (cI, 1024, .inl mnco)), (a_mo11, .inl (cI, 8000, .inl mby)), (a_mo16, .inl (cI, 16, .inl mwk))] s.heap := hP
  have hD : va_D A [(a_mo, .inr (10, [.int ma, .int md, .ref a_mo2, .ref a_mo3, .ref a_mo4, .ref a_mo5, .ref a_mo6, .ref a_mo7, .ref a_mo8, .int mq, .int mz, .ref a_mo11, .int msz, .int mat, .int mpl, .int mfa, .ref a_mo16, .int mth])), (a_mo2, .inl (cI, 1024, .inl mpic)), (a_mo3, .inl (cI, 1024, .inl mgiv)), (a_mo4, .inl (cI, 1024, .inl mkep)), (a_mo5, .inl (cI, 64, .inl mmod)), (a_mo6, .inl (cI, 1024, .inl mcoe)), (a_mo7, .inl (cI, 64, .inl mnmo)), (a_mo8, .inl (cI, 1024, .inl mnco)), (a_mo11, .inl (cI, 8000, .inl mby)), (a_mo16, .inl (cI, 16, .inl mwk))] := hD
  have iX10 : ∀ w ∈ wsX100, w ∈ jw_X10_put := fun w h => List.mem_cons_of_mem _ (jm_iX10 w h)
  have lk13 := hts (.fieldLink RX10 13 "IntraMillModel" "down" "I") (List.mem_cons_of_mem _ mw_735)
  have lk16 := hts (.fieldLink RX10 16 "IntraMillModel" "picture" "[I") (List.mem_cons_of_mem _ mw_736)
  have lk7 := hts (.fieldLink RX10 7 "IntraMillModel" "across" "I") (List.mem_cons_of_mem _ mw_734)
  refine lv_aload_n hx hb dX10_put_0 rfl (lv_at hl 0 rfl) ?_
  refine lv_iload_n hx hb dX10_put_1 rfl (lv_at hl 1 rfl) ?_
  refine lv_iconst (v := 0) hx hb dX10_put_2 (by decide) ?_
  refine lv_aload_n hx hb dX10_put_3 rfl (lv_at hl 0 rfl) ?_
  refine va_get (D := D) (ci := 10) (v := .int ma) (C := RX10) (T := TX10) (N := 18) hx hb hts iX10 hown hK hP 0 rfl rfl 0 (by decide) lk7 (fun _ h9 => h9) rfl dX10_put_4 ?_
  refine lv_iconst (v := 1) hx hb dX10_put_7 (by decide) ?_
  refine lv_isub hx hb dX10_put_8 ?_
  have hPc := hP.sub (ws' := []) [] rfl
  have hDc := hD.sub (ws' := []) [] (by decide) rfl
  have hFc := va_free (wc := []) hD hS hA [] rfl
  refine jm_calli (wr := [(a_mo, .inr (10, [.int ma, .int md, .ref a_mo2, .ref a_mo3, .ref a_mo4, .ref a_mo5, .ref a_mo6, .ref a_mo7, .ref a_mo8, .int mq, .int mz, .ref a_mo11, .int msz, .int mat, .int mpl, .int mfa, .ref a_mo16, .int mth])), (a_mo2, .inl (cI, 1024, .inl mpic)), (a_mo3, .inl (cI, 1024, .inl mgiv)), (a_mo4, .inl (cI, 1024, .inl mkep)), (a_mo5, .inl (cI, 64, .inl mmod)), (a_mo6, .inl (cI, 1024, .inl mcoe)), (a_mo7, .inl (cI, 64, .inl mnmo)), (a_mo8, .inl (cI, 1024, .inl mnco)), (a_mo11, .inl (cI, 8000, .inl mby)), (a_mo16, .inl (cI, 16, .inl mwk))]) (va_runS (As := [.int v1, .int 0, .int (ma - 1)]) (rest := [.ref a_mo]) ⟨hx, hb, hml, hown, hts⟩ (c_X10_within l D cI cB tt s.heap.size v1 0 (ma - 1) h) (va_cwS 3 hts (jm_gS mw_797 mw_798 mw_65 mw_799) rfl rfl rfl (by decide +kernel) ⟨Nat.le_of_ble_eq_true rfl, Nat.le_of_ble_eq_true rfl⟩) ⟨jm_blind, jm_pre hK hE hS hPc hDc hFc _⟩ rfl rfl hl.1 rfl (lv_room (Nat.le_of_ble_eq_true rfl)) dX10_put_9 ⟨Nat.zero_le _, Nat.zero_le _⟩) hS hP hD [] [0, 1, 2, 3, 4, 5, 6, 7, 8, 9] rfl rfl (by decide) (by decide) hFc (fun r_1 u_1 H_1 locs hw hP hD hS => ?_)
  have h := hw
  have hP : va_P D vwCl [(a_mo, .inr (10, [.int ma, .int md, .ref a_mo2, .ref a_mo3, .ref a_mo4, .ref a_mo5, .ref a_mo6, .ref a_mo7, .ref a_mo8, .int mq, .int mz, .ref a_mo11, .int msz, .int mat, .int mpl, .int mfa, .ref a_mo16, .int mth])), (a_mo2, .inl (cI, 1024, .inl mpic)), (a_mo3, .inl (cI, 1024, .inl mgiv)), (a_mo4, .inl (cI, 1024, .inl mkep)), (a_mo5, .inl (cI, 64, .inl mmod)), (a_mo6, .inl (cI, 1024, .inl mcoe)), (a_mo7, .inl (cI, 64, .inl mnmo)), (a_mo8, .inl (cI, 1024, .inl mnco)), (a_mo11, .inl (cI, 8000, .inl mby)), (a_mo16, .inl (cI, 16, .inl mwk))] H_1 := hP.sub [0, 1, 2, 3, 4, 5, 6, 7, 8, 9] rfl
  have hD : va_D A [(a_mo, .inr (10, [.int ma, .int md, .ref a_mo2, .ref a_mo3, .ref a_mo4, .ref a_mo5, .ref a_mo6, .ref a_mo7, .ref a_mo8, .int mq, .int mz, .ref a_mo11, .int msz, .int mat, .int mpl, .int mfa, .ref a_mo16, .int mth])), (a_mo2, .inl (cI, 1024, .inl mpic)), (a_mo3, .inl (cI, 1024, .inl mgiv)), (a_mo4, .inl (cI, 1024, .inl mkep)), (a_mo5, .inl (cI, 64, .inl mmod)), (a_mo6, .inl (cI, 1024, .inl mcoe)), (a_mo7, .inl (cI, 64, .inl mnmo)), (a_mo8, .inl (cI, 1024, .inl mnco)), (a_mo11, .inl (cI, 8000, .inl mby)), (a_mo16, .inl (cI, 16, .inl mwk))] := hD.sub [0, 1, 2, 3, 4, 5, 6, 7, 8, 9] (by decide) rfl
  obtain ⟨J_2, hj_2, h⟩ := jn1_out h
  have hJ_2 : ∀ (t0_2 : Int32), ∀ (H : Heap) (locs : List Loc) (ls : Array Slot), J_2 t0_2 → va_P D vwCl [(a_mo, .inr (10, [.int ma, .int md, .ref a_mo2, .ref a_mo3, .ref a_mo4, .ref a_mo5, .ref a_mo6, .ref a_mo7, .ref a_mo8, .int mq, .int mz, .ref a_mo11, .int msz, .int mat, .int mpl, .int mfa, .ref a_mo16, .int mth])), (a_mo2, .inl (cI, 1024, .inl mpic)), (a_mo3, .inl (cI, 1024, .inl mgiv)), (a_mo4, .inl (cI, 1024, .inl mkep)), (a_mo5, .inl (cI, 64, .inl mmod)), (a_mo6, .inl (cI, 1024, .inl mcoe)), (a_mo7, .inl (cI, 64, .inl mnmo)), (a_mo8, .inl (cI, 1024, .inl mnco)), (a_mo11, .inl (cI, 8000, .inl mby)), (a_mo16, .inl (cI, 16, .inl mwk))] H → va_D A [(a_mo, .inr (10, [.int ma, .int md, .ref a_mo2, .ref a_mo3, .ref a_mo4, .ref a_mo5, .ref a_mo6, .ref a_mo7, .ref a_mo8, .int mq, .int mz, .ref a_mo11, .int msz, .int mat, .int mpl, .int mfa, .ref a_mo16, .int mth])), (a_mo2, .inl (cI, 1024, .inl mpic)), (a_mo3, .inl (cI, 1024, .inl mgiv)), (a_mo4, .inl (cI, 1024, .inl mkep)), (a_mo5, .inl (cI, 64, .inl mmod)), (a_mo6, .inl (cI, 1024, .inl mcoe)), (a_mo7, .inl (cI, 64, .inl mnmo)), (a_mo8, .inl (cI, 1024, .inl mnco)), (a_mo11, .inl (cI, 8000, .inl mby)), (a_mo16, .inl (cI, 16, .inl mwk))] → va_S A s.heap H locs → lv_has ls 5 [(0, .ref a_mo), (1, .int v1), (2, .int v2), (3, .int v3)] → W p l e rmX10_put s m args below meth c H locs 0 0 Q (F0 m 36 ls [.int t0_2, .ref a_mo]) := by
    intro t0_2 H locs ls h hP hD hS hl
    have h := hj_2 t0_2 h
    refine lv_iconst (v := 1) hx hb dX10_put_36 (by decide) ?_
    have hPc := hP.sub (ws' := [(a_mo, .inr (10, [.int ma, .int md, .ref a_mo2, .ref a_mo3, .ref a_mo4, .ref a_mo5, .ref a_mo6, .ref a_mo7, .ref a_mo8, .int mq, .int mz, .ref a_mo11, .int msz, .int mat, .int mpl, .int mfa, .ref a_mo16, .int mth])), (a_mo2, .inl (cI, 1024, .inl mpic)), (a_mo3, .inl (cI, 1024, .inl mgiv)), (a_mo4, .inl (cI, 1024, .inl mkep)), (a_mo5, .inl (cI, 64, .inl mmod)), (a_mo6, .inl (cI, 1024, .inl mcoe)), (a_mo7, .inl (cI, 64, .inl mnmo)), (a_mo8, .inl (cI, 1024, .inl mnco)), (a_mo11, .inl (cI, 8000, .inl mby)), (a_mo16, .inl (cI, 16, .inl mwk))]) [0, 1, 2, 3, 4, 5, 6, 7, 8, 9] rfl
    have hDc := hD.sub (ws' := [(a_mo, .inr (10, [.int ma, .int md, .ref a_mo2, .ref a_mo3, .ref a_mo4, .ref a_mo5, .ref a_mo6, .ref a_mo7, .ref a_mo8, .int mq, .int mz, .ref a_mo11, .int msz, .int mat, .int mpl, .int mfa, .ref a_mo16, .int mth])), (a_mo2, .inl (cI, 1024, .inl mpic)), (a_mo3, .inl (cI, 1024, .inl mgiv)), (a_mo4, .inl (cI, 1024, .inl mkep)), (a_mo5, .inl (cI, 64, .inl mmod)), (a_mo6, .inl (cI, 1024, .inl mcoe)), (a_mo7, .inl (cI, 64, .inl mnmo)), (a_mo8, .inl (cI, 1024, .inl mnco)), (a_mo11, .inl (cI, 8000, .inl mby)), (a_mo16, .inl (cI, 16, .inl mwk))]) [0, 1, 2, 3, 4, 5, 6, 7, 8, 9] (by decide) rfl
    have hFc := va_free (wc := [(a_mo, .inr (10, [.int ma, .int md, .ref a_mo2, .ref a_mo3, .ref a_mo4, .ref a_mo5, .ref a_mo6, .ref a_mo7, .ref a_mo8, .int mq, .int mz, .ref a_mo11, .int msz, .int mat, .int mpl, .int mfa, .ref a_mo16, .int mth])), (a_mo2, .inl (cI, 1024, .inl mpic)), (a_mo3, .inl (cI, 1024, .inl mgiv)), (a_mo4, .inl (cI, 1024, .inl mkep)), (a_mo5, .inl (cI, 64, .inl mmod)), (a_mo6, .inl (cI, 1024, .inl mcoe)), (a_mo7, .inl (cI, 64, .inl mnmo)), (a_mo8, .inl (cI, 1024, .inl mnco)), (a_mo11, .inl (cI, 8000, .inl mby)), (a_mo16, .inl (cI, 16, .inl mwk))]) hD hS hA [0, 1, 2, 3, 4, 5, 6, 7, 8, 9] rfl
    refine jm_calli (wr := []) (va_runV (As := [.int t0_2, .int 1]) (rest := []) ⟨hx, hb, hml, hown, hts⟩ (c_X10_fails l D cI cB tt a_mo a_mo2 a_mo3 a_mo4 a_mo5 a_mo6 a_mo7 a_mo8 a_mo11 a_mo16 H.size ma md mq mz msz mat mpl mfa mth mpic mgiv mkep mmod mcoe mnmo mnco mby mwk t0_2 1 h) (cwV 2 hts (jm_gV mw_800 mw_802 mw_25 mw_65 mw_803) rfl rfl rfl (by decide +kernel) ⟨Nat.le_of_ble_eq_true rfl, Nat.le_of_ble_eq_true rfl⟩) ⟨jm_blind, va_recv hK hPc (ci := 10) (q0 := 0) rfl rfl, jm_pre hK hE hS hPc hDc hFc _⟩ rfl rfl hl.1 rfl (lv_room (Nat.le_of_ble_eq_true rfl)) dX10_put_37 ⟨Nat.zero_le _, Nat.zero_le _⟩) hS hP hD [0, 1, 2, 3, 4, 5, 6, 7, 8, 9] [] rfl rfl (by decide) (by decide) hFc (fun r_3 u_3 H_3 locs hw hP hD hS => ?_)
    obtain ⟨mth_3, rfl⟩ : ∃ z, z = u_3 := ⟨_, rfl⟩
    have h := hw
    have hP : va_P D vwCl [(a_mo, .inr (10, [.int ma, .int md, .ref a_mo2, .ref a_mo3, .ref a_mo4, .ref a_mo5, .ref a_mo6, .ref a_mo7, .ref a_mo8, .int mq, .int mz, .ref a_mo11, .int msz, .int mat, .int mpl, .int mfa, .ref a_mo16, .int mth_3])), (a_mo2, .inl (cI, 1024, .inl mpic)), (a_mo3, .inl (cI, 1024, .inl mgiv)), (a_mo4, .inl (cI, 1024, .inl mkep)), (a_mo5, .inl (cI, 64, .inl mmod)), (a_mo6, .inl (cI, 1024, .inl mcoe)), (a_mo7, .inl (cI, 64, .inl mnmo)), (a_mo8, .inl (cI, 1024, .inl mnco)), (a_mo11, .inl (cI, 8000, .inl mby)), (a_mo16, .inl (cI, 16, .inl mwk))] H_3 := hP.sub [0, 1, 2, 3, 4, 5, 6, 7, 8, 9] rfl
    have hD : va_D A [(a_mo, .inr (10, [.int ma, .int md, .ref a_mo2, .ref a_mo3, .ref a_mo4, .ref a_mo5, .ref a_mo6, .ref a_mo7, .ref a_mo8, .int mq, .int mz, .ref a_mo11, .int msz, .int mat, .int mpl, .int mfa, .ref a_mo16, .int mth_3])), (a_mo2, .inl (cI, 1024, .inl mpic)), (a_mo3, .inl (cI, 1024, .inl mgiv)), (a_mo4, .inl (cI, 1024, .inl mkep)), (a_mo5, .inl (cI, 64, .inl mmod)), (a_mo6, .inl (cI, 1024, .inl mcoe)), (a_mo7, .inl (cI, 64, .inl mnmo)), (a_mo8, .inl (cI, 1024, .inl mnco)), (a_mo11, .inl (cI, 8000, .inl mby)), (a_mo16, .inl (cI, 16, .inl mwk))] := hD.sub [0, 1, 2, 3, 4, 5, 6, 7, 8, 9] (by decide) rfl
    refine lv_if_eq (tgt := 44) hx hb dX10_put_40 (by decide) (fun c_4 => ?_) (fun c_4 => ?_)
    · have h := h.1 c_4
      refine lv_iconst (v := 0) hx hb dX10_put_44 (by decide) ?_
      refine lv_istore (lv' := [(4, .int 0), (0, .ref a_mo), (1, .int v1), (2, .int v2), (3, .int v3)]) hx hb dX10_put_45 hl (by decide) rfl (fun ls hl => ?_)
      obtain ⟨n_9, h⟩ := h
      have hL_9 : ∀ (v1 : Int32) (v2 : Int32) (v3 : Int32) (mth : Int32) (X : Int32 → (Nat → Int32) → Prop), (∀ (v4 : Int32) (mpic : (Nat → Int32)), ∀ (H : Heap) (locs : List Loc) (ls : Array Slot), X v4 mpic → va_P D vwCl [(a_mo, .inr (10, [.int ma, .int md, .ref a_mo2, .ref a_mo3, .ref a_mo4, .ref a_mo5, .ref a_mo6, .ref a_mo7, .ref a_mo8, .int mq, .int mz, .ref a_mo11, .int msz, .int mat, .int mpl, .int mfa, .ref a_mo16, .int mth])), (a_mo2, .inl (cI, 1024, .inl mpic)), (a_mo3, .inl (cI, 1024, .inl mgiv)), (a_mo4, .inl (cI, 1024, .inl mkep)), (a_mo5, .inl (cI, 64, .inl mmod)), (a_mo6, .inl (cI, 1024, .inl mcoe)), (a_mo7, .inl (cI, 64, .inl mnmo)), (a_mo8, .inl (cI, 1024, .inl mnco)), (a_mo11, .inl (cI, 8000, .inl mby)), (a_mo16, .inl (cI, 16, .inl mwk))] H → va_D A [(a_mo, .inr (10, [.int ma, .int md, .ref a_mo2, .ref a_mo3, .ref a_mo4, .ref a_mo5, .ref a_mo6, .ref a_mo7, .ref a_mo8, .int mq, .int mz, .ref a_mo11, .int msz, .int mat, .int mpl, .int mfa, .ref a_mo16, .int mth])), (a_mo2, .inl (cI, 1024, .inl mpic)), (a_mo3, .inl (cI, 1024, .inl mgiv)), (a_mo4, .inl (cI, 1024, .inl mkep)), (a_mo5, .inl (cI, 64, .inl mmod)), (a_mo6, .inl (cI, 1024, .inl mcoe)), (a_mo7, .inl (cI, 64, .inl mnmo)), (a_mo8, .inl (cI, 1024, .inl mnco)), (a_mo11, .inl (cI, 8000, .inl mby)), (a_mo16, .inl (cI, 16, .inl mwk))] → va_S A s.heap H locs → lv_has ls 5 [(0, .ref a_mo), (1, .int v1), (2, .int v2), (3, .int v3), (4, .int v4)] → W p l e rmX10_put s m args below meth c H locs 0 0 Q (F0 m 89 ls [])) → ∀ (n : Nat) (v4 : Int32) (mpic : (Nat → Int32)), ∀ (H : Heap) (locs : List Loc) (ls : Array Slot), wl_X10_put_47 v1 v2 v3 K X n v4 mpic → va_P D vwCl [(a_mo, .inr (10, [.int ma, .int md, .ref a_mo2, .ref a_mo3, .ref a_mo4, .ref a_mo5, .ref a_mo6, .ref a_mo7, .ref a_mo8, .int mq, .int mz, .ref a_mo11, .int msz, .int mat, .int mpl, .int mfa, .ref a_mo16, .int mth])), (a_mo2, .inl (cI, 1024, .inl mpic)), (a_mo3, .inl (cI, 1024, .inl mgiv)), (a_mo4, .inl (cI, 1024, .inl mkep)), (a_mo5, .inl (cI, 64, .inl mmod)), (a_mo6, .inl (cI, 1024, .inl mcoe)), (a_mo7, .inl (cI, 64, .inl mnmo)), (a_mo8, .inl (cI, 1024, .inl mnco)), (a_mo11, .inl (cI, 8000, .inl mby)), (a_mo16, .inl (cI, 16, .inl mwk))] H → va_D A [(a_mo, .inr (10, [.int ma, .int md, .ref a_mo2, .ref a_mo3, .ref a_mo4, .ref a_mo5, .ref a_mo6, .ref a_mo7, .ref a_mo8, .int mq, .int mz, .ref a_mo11, .int msz, .int mat, .int mpl, .int mfa, .ref a_mo16, .int mth])), (a_mo2, .inl (cI, 1024, .inl mpic)), (a_mo3, .inl (cI, 1024, .inl mgiv)), (a_mo4, .inl (cI, 1024, .inl mkep)), (a_mo5, .inl (cI, 64, .inl mmod)), (a_mo6, .inl (cI, 1024, .inl mcoe)), (a_mo7, .inl (cI, 64, .inl mnmo)), (a_mo8, .inl (cI, 1024, .inl mnco)), (a_mo11, .inl (cI, 8000, .inl mby)), (a_mo16, .inl (cI, 16, .inl mwk))] → va_S A s.heap H locs → lv_has ls 5 [(0, .ref a_mo), (1, .int v1), (2, .int v2), (3, .int v3), (4, .int v4)] → W p l e rmX10_put s m args below meth c H locs 0 0 Q (F0 m 47 ls []) := by
        intro v1 v2 v3 mth X hX n
        induction n with
        | zero => intro v4 mpic H locs ls h; rw [wl_X10_put_47] at h; exact h.elim
        | succ n ih =>
          intro v4 mpic H locs ls h hP hD hS hl
          rw [wl_X10_put_47] at h
          refine lv_iload hx hb dX10_put_47 (lv_at hl 4 rfl) ?_
          refine lv_iconst (v := 4) hx hb dX10_put_49 (by decide) ?_
          refine lv_icmp_ge (tgt := 89) hx hb dX10_put_50 (by decide) (fun c_5 => ?_) (fun c_5 => ?_)
          · have h := h.1 c_5
            exact hX v4 mpic H _ _ h hP hD hS (lv_sub hl [0, 1, 2, 3, 4] rfl)
          · have h := h.2 c_5
            refine lv_aload_n hx hb dX10_put_53 rfl (lv_at hl 0 rfl) ?_
            refine va_get (D := D) (ci := 10) (v := .ref a_mo2) (C := RX10) (T := TX10) (N := 18) hx hb hts iX10 hown hK hP 0 rfl rfl 2 (by decide) lk16 (fun _ h9 => h9) rfl dX10_put_54 ?_
            refine lv_bipush (v := 32) hx hb dX10_put_57 (by decide) ?_
            refine lv_iload_n hx hb dX10_put_59 rfl (lv_at hl 2 rfl) ?_
            refine lv_imul hx hb dX10_put_60 ?_
            refine lv_iconst (v := 4) hx hb dX10_put_61 (by decide) ?_
            refine lv_iload_n hx hb dX10_put_62 rfl (lv_at hl 1 rfl) ?_
            refine lv_imul hx hb dX10_put_63 ?_
            refine lv_iadd hx hb dX10_put_64 ?_
            refine lv_iload hx hb dX10_put_65 (lv_at hl 4 rfl) ?_
            refine lv_iadd hx hb dX10_put_67 ?_
            refine lv_iload_n hx hb dX10_put_68 rfl (lv_at hl 3 rfl) ?_
            refine lv_bipush (v := 24) hx hb dX10_put_69 (by decide) ?_
            refine lv_bipush (v := 8) hx hb dX10_put_71 (by decide) ?_
            refine lv_iload hx hb dX10_put_73 (lv_at hl 4 rfl) ?_
            refine lv_imul hx hb dX10_put_75 ?_
            refine lv_isub hx hb dX10_put_76 ?_
            refine lv_ishr hx hb dX10_put_77 ?_
            refine lv_sipush (v := 255) hx hb dX10_put_78 (by decide) ?_
            refine lv_iand hx hb dX10_put_81 ?_
            obtain ⟨hi_6, h⟩ := h
            refine va_iast hx hb hK hP hD hS 1 0 rfl rfl hi_6 dX10_put_82 (fun H_7 locs hP hD hS => ?_)
            have hP : va_P D vwCl [(a_mo, .inr (10, [.int ma, .int md, .ref a_mo2, .ref a_mo3, .ref a_mo4, .ref a_mo5, .ref a_mo6, .ref a_mo7, .ref a_mo8, .int mq, .int mz, .ref a_mo11, .int msz, .int mat, .int mpl, .int mfa, .ref a_mo16, .int mth])), (a_mo2, .inl (cI, 1024, .inl (jup mpic (((32 * v2) + (4 * v1)) + v4) ((v3 >>> ((24 - (8 * v4)) &&& 31)) &&& 255)))), (a_mo3, .inl (cI, 1024, .inl mgiv)), (a_mo4, .inl (cI, 1024, .inl mkep)), (a_mo5, .inl (cI, 64, .inl mmod)), (a_mo6, .inl (cI, 1024, .inl mcoe)), (a_mo7, .inl (cI, 64, .inl mnmo)), (a_mo8, .inl (cI, 1024, .inl mnco)), (a_mo11, .inl (cI, 8000, .inl mby)), (a_mo16, .inl (cI, 16, .inl mwk))] H_7 := hP
            have hD : va_D A [(a_mo, .inr (10, [.int ma, .int md, .ref a_mo2, .ref a_mo3, .ref a_mo4, .ref a_mo5, .ref a_mo6, .ref a_mo7, .ref a_mo8, .int mq, .int mz, .ref a_mo11, .int msz, .int mat, .int mpl, .int mfa, .ref a_mo16, .int mth])), (a_mo2, .inl (cI, 1024, .inl (jup mpic (((32 * v2) + (4 * v1)) + v4) ((v3 >>> ((24 - (8 * v4)) &&& 31)) &&& 255)))), (a_mo3, .inl (cI, 1024, .inl mgiv)), (a_mo4, .inl (cI, 1024, .inl mkep)), (a_mo5, .inl (cI, 64, .inl mmod)), (a_mo6, .inl (cI, 1024, .inl mcoe)), (a_mo7, .inl (cI, 64, .inl mnmo)), (a_mo8, .inl (cI, 1024, .inl mnco)), (a_mo11, .inl (cI, 8000, .inl mby)), (a_mo16, .inl (cI, 16, .inl mwk))] := hD
            obtain ⟨x4_8, ex4_8⟩ : ∃ y : Int32, y = v4 + 1 := ⟨_, rfl⟩
            have h := h x4_8 ex4_8
            refine lv_iinc (v := x4_8) (lv' := [(4, .int x4_8), (0, .ref a_mo), (1, .int v1), (2, .int v2), (3, .int v3)]) hx hb dX10_put_83 hl (k := 4) rfl (by rw [ex4_8]; rfl) (by decide) rfl (fun ls hl => ?_)
            refine lv_goto (tgt := 47) hx hb dX10_put_86 (by decide) ?_
            exact ih x4_8 (jup mpic (((32 * v2) + (4 * v1)) + v4) ((v3 >>> ((24 - (8 * v4)) &&& 31)) &&& 255)) H_7 _ _ h hP hD hS (lv_sub hl [1, 2, 3, 4, 0] rfl)
      refine hL_9 v1 v2 v3 mth_3 _ ?_ n_9 0 mpic H_3 _ _ h hP hD hS (lv_sub hl [1, 2, 3, 4, 0] rfl)
      intro v4_9 mpic_9 H locs ls h hP hD hS hl
      exact hret (mth_3, mpic_9) _ _ _ _ dX10_put_89 h hP hD hS
    · have h := h.2 c_4
      exact hret (mth_3, mpic) _ _ _ _ dX10_put_43 h hP hD hS
  obtain ⟨J_10, hj_10, h⟩ := jn0_out h
  have hJ_10 : ∀ (H : Heap) (locs : List Loc) (ls : Array Slot), J_10 → va_P D vwCl [(a_mo, .inr (10, [.int ma, .int md, .ref a_mo2, .ref a_mo3, .ref a_mo4, .ref a_mo5, .ref a_mo6, .ref a_mo7, .ref a_mo8, .int mq, .int mz, .ref a_mo11, .int msz, .int mat, .int mpl, .int mfa, .ref a_mo16, .int mth])), (a_mo2, .inl (cI, 1024, .inl mpic)), (a_mo3, .inl (cI, 1024, .inl mgiv)), (a_mo4, .inl (cI, 1024, .inl mkep)), (a_mo5, .inl (cI, 64, .inl mmod)), (a_mo6, .inl (cI, 1024, .inl mcoe)), (a_mo7, .inl (cI, 64, .inl mnmo)), (a_mo8, .inl (cI, 1024, .inl mnco)), (a_mo11, .inl (cI, 8000, .inl mby)), (a_mo16, .inl (cI, 16, .inl mwk))] H → va_D A [(a_mo, .inr (10, [.int ma, .int md, .ref a_mo2, .ref a_mo3, .ref a_mo4, .ref a_mo5, .ref a_mo6, .ref a_mo7, .ref a_mo8, .int mq, .int mz, .ref a_mo11, .int msz, .int mat, .int mpl, .int mfa, .ref a_mo16, .int mth])), (a_mo2, .inl (cI, 1024, .inl mpic)), (a_mo3, .inl (cI, 1024, .inl mgiv)), (a_mo4, .inl (cI, 1024, .inl mkep)), (a_mo5, .inl (cI, 64, .inl mmod)), (a_mo6, .inl (cI, 1024, .inl mcoe)), (a_mo7, .inl (cI, 64, .inl mnmo)), (a_mo8, .inl (cI, 1024, .inl mnco)), (a_mo11, .inl (cI, 8000, .inl mby)), (a_mo16, .inl (cI, 16, .inl mwk))] → va_S A s.heap H locs → lv_has ls 5 [(0, .ref a_mo), (1, .int v1), (2, .int v2), (3, .int v3)] → W p l e rmX10_put s m args below meth c H locs 0 0 Q (F0 m 31 ls [.ref a_mo]) := by
    intro  H locs ls h hP hD hS hl
    have h := hj_10 h
    refine lv_iconst (v := 1) hx hb dX10_put_31 (by decide) ?_
    refine lv_goto (tgt := 36) hx hb dX10_put_32 (by decide) ?_
    exact hJ_2 1 H _ _ h hP hD hS (lv_sub hl [0, 1, 2, 3] rfl)
  refine lv_if_eq (tgt := 31) hx hb dX10_put_12 (by decide) (fun c_11 => ?_) (fun c_11 => ?_)
  · have h := h.1 c_11
    exact hJ_10  H_1 _ _ h hP hD hS (lv_sub hl [0, 1, 2, 3] rfl)
  · have h := h.2 c_11
    refine lv_iload_n hx hb dX10_put_15 rfl (lv_at hl 2 rfl) ?_
    refine lv_iconst (v := 0) hx hb dX10_put_16 (by decide) ?_
    refine lv_iconst (v := 4) hx hb dX10_put_17 (by decide) ?_
    refine lv_aload_n hx hb dX10_put_18 rfl (lv_at hl 0 rfl) ?_
    refine va_get (D := D) (ci := 10) (v := .int md) (C := RX10) (T := TX10) (N := 18) hx hb hts iX10 hown hK hP 0 rfl rfl 1 (by decide) lk13 (fun _ h9 => h9) rfl dX10_put_19 ?_
    refine lv_imul hx hb dX10_put_22 ?_
    refine lv_iconst (v := 1) hx hb dX10_put_23 (by decide) ?_
    refine lv_isub hx hb dX10_put_24 ?_
    have hPc := hP.sub (ws' := []) [] rfl
    have hDc := hD.sub (ws' := []) [] (by decide) rfl
    have hFc := va_free (wc := []) hD hS hA [] rfl
    refine jm_calli (wr := [(a_mo, .inr (10, [.int ma, .int md, .ref a_mo2, .ref a_mo3, .ref a_mo4, .ref a_mo5, .ref a_mo6, .ref a_mo7, .ref a_mo8, .int mq, .int mz, .ref a_mo11, .int msz, .int mat, .int mpl, .int mfa, .ref a_mo16, .int mth])), (a_mo2, .inl (cI, 1024, .inl mpic)), (a_mo3, .inl (cI, 1024, .inl mgiv)), (a_mo4, .inl (cI, 1024, .inl mkep)), (a_mo5, .inl (cI, 64, .inl mmod)), (a_mo6, .inl (cI, 1024, .inl mcoe)), (a_mo7, .inl (cI, 64, .inl mnmo)), (a_mo8, .inl (cI, 1024, .inl mnco)), (a_mo11, .inl (cI, 8000, .inl mby)), (a_mo16, .inl (cI, 16, .inl mwk))]) (va_runS (As := [.int v2, .int 0, .int ((4 * md) - 1)]) (rest := [.ref a_mo]) ⟨hx, hb, hml, hown, hts⟩ (c_X10_within l D cI cB tt H_1.size v2 0 ((4 * md) - 1) h) (va_cwS 3 hts (jm_gS mw_797 mw_798 mw_65 mw_799) rfl rfl rfl (by decide +kernel) ⟨Nat.le_of_ble_eq_true rfl, Nat.le_of_ble_eq_true rfl⟩) ⟨jm_blind, jm_pre hK hE hS hPc hDc hFc _⟩ rfl rfl hl.1 rfl (lv_room (Nat.le_of_ble_eq_true rfl)) dX10_put_25 ⟨Nat.zero_le _, Nat.zero_le _⟩) hS hP hD [] [0, 1, 2, 3, 4, 5, 6, 7, 8, 9] rfl rfl (by decide) (by decide) hFc (fun r_12 u_12 H_12 locs hw hP hD hS => ?_)
    have h := hw
    have hP : va_P D vwCl [(a_mo, .inr (10, [.int ma, .int md, .ref a_mo2, .ref a_mo3, .ref a_mo4, .ref a_mo5, .ref a_mo6, .ref a_mo7, .ref a_mo8, .int mq, .int mz, .ref a_mo11, .int msz, .int mat, .int mpl, .int mfa, .ref a_mo16, .int mth])), (a_mo2, .inl (cI, 1024, .inl mpic)), (a_mo3, .inl (cI, 1024, .inl mgiv)), (a_mo4, .inl (cI, 1024, .inl mkep)), (a_mo5, .inl (cI, 64, .inl mmod)), (a_mo6, .inl (cI, 1024, .inl mcoe)), (a_mo7, .inl (cI, 64, .inl mnmo)), (a_mo8, .inl (cI, 1024, .inl mnco)), (a_mo11, .inl (cI, 8000, .inl mby)), (a_mo16, .inl (cI, 16, .inl mwk))] H_12 := hP.sub [0, 1, 2, 3, 4, 5, 6, 7, 8, 9] rfl
    have hD : va_D A [(a_mo, .inr (10, [.int ma, .int md, .ref a_mo2, .ref a_mo3, .ref a_mo4, .ref a_mo5, .ref a_mo6, .ref a_mo7, .ref a_mo8, .int mq, .int mz, .ref a_mo11, .int msz, .int mat, .int mpl, .int mfa, .ref a_mo16, .int mth])), (a_mo2, .inl (cI, 1024, .inl mpic)), (a_mo3, .inl (cI, 1024, .inl mgiv)), (a_mo4, .inl (cI, 1024, .inl mkep)), (a_mo5, .inl (cI, 64, .inl mmod)), (a_mo6, .inl (cI, 1024, .inl mcoe)), (a_mo7, .inl (cI, 64, .inl mnmo)), (a_mo8, .inl (cI, 1024, .inl mnco)), (a_mo11, .inl (cI, 8000, .inl mby)), (a_mo16, .inl (cI, 16, .inl mwk))] := hD.sub [0, 1, 2, 3, 4, 5, 6, 7, 8, 9] (by decide) rfl
    refine lv_if_ne (tgt := 35) hx hb dX10_put_28 (by decide) (fun c_13 => ?_) (fun c_13 => ?_)
    · have h := h.2 c_13
      refine lv_iconst (v := 0) hx hb dX10_put_35 (by decide) ?_
      exact hJ_2 0 H_12 _ _ h hP hD hS (lv_sub hl [0, 1, 2, 3] rfl)
    · have h := h.1 c_13
      exact hJ_10  H_12 _ _ h hP hD hS (lv_sub hl [0, 1, 2, 3] rfl)
def wp_X10_pixel (ma : Int32) (md : Int32) (mth : Int32) (mpic : (Nat → Int32)) (v1 v2 : Int32) (K : Int32 → Int32 → Prop) : Prop := wp_X10_within v1 0 ((4 * ma) - 1) (fun (r_2 : Int32) => ((r_2 = 0 → K (-1) 0) ∧ (¬ r_2 = 0 → wp_X10_within v2 0 ((4 * md) - 1) (fun (r_4 : Int32) => ((r_4 = 0 → K (-1) 0) ∧ (¬ r_4 = 0 → vp_in ((32 * v2) + v1) 1024 ∧ K (jat mpic ((32 * v2) + v1)) 0))))))
abbrev jw_X10_pixel : List Cond := .code yX10_pixel cX10_pixel 3 (some .int) :: jmAll
abbrev rmX10_pixel : Room := { frames := 1, cells := 0, slots := 0, locals := 22 }
set_option maxHeartbeats 4000000 in
set_option maxRecDepth 100000 in
theorem c_X10_pixel (l : Launch) (D : va_G) (cI cB : ClassId) (tt : Nat × Nat × Nat) (a_mo a_mo2 a_mo3 a_mo4 a_mo5 a_mo6 a_mo7 a_mo8 a_mo11 a_mo16 : Nat) (sz : Nat) (ma : Int32) (md : Int32) (mq : Int32) (mz : Int32) (msz : Int32) (mat : Int32) (mpl : Int32) (mfa : Int32) (mth : Int32) (mpic : (Nat → Int32)) (mgiv : (Nat → Int32)) (mkep : (Nat → Int32)) (mmod : (Nat → Int32)) (mcoe : (Nat → Int32)) (mnmo : (Nat → Int32)) (mnco : (Nat → Int32)) (mby : (Nat → Int32)) (mwk : (Nat → Int32)) (v1 v2 : Int32) {K : Int32 → Int32 → Prop} (h : wp_X10_pixel ma md mth mpic v1 v2 K) : Met l yX10_pixel jw_X10_pixel rmX10_pixel (va_Pc [.ref a_mo, .int v1, .int v2] (jm_Pre D cI cB tt (wd_mo_mo2_mo3_mo4_mo5_mo6_mo7_mo8_mo11_mo16 cI cB a_mo a_mo2 a_mo3 a_mo4 a_mo5 a_mo6 a_mo7 a_mo8 a_mo11 a_mo16 ma md mq mz msz mat mpl mfa mth mpic mgiv mkep mmod mcoe mnmo mnco mby mwk) sz)) (va_Qi (fun (r : Int32) (u : Int32) => K r u) (jm_Post D cI cB (wd_mo_mo2_mo3_mo4_mo5_mo6_mo7_mo8_mo11_mo16 cI cB a_mo a_mo2 a_mo3 a_mo4 a_mo5 a_mo6 a_mo7 a_mo8 a_mo11 a_mo16 ma md mq mz msz mat mpl mfa mth mpic mgiv mkep mmod mcoe mnmo mnco mby mwk) sz (fun (u : Int32) => wd_mo_mo2_mo3_mo4_mo5_mo6_mo7_mo8_mo11_mo16 cI cB a_mo a_mo2 a_mo3 a_mo4 a_mo5 a_mo6 a_mo7 a_mo8 a_mo11 a_mo16 ma md mq mz msz mat mpl mfa u mpic mgiv mkep mmod mcoe mnmo mnco mby mwk)) (va_A (wd_mo_mo2_mo3_mo4_mo5_mo6_mo7_mo8_mo11_mo16 cI cB a_mo a_mo2 a_mo3 a_mo4 a_mo5 a_mo6 a_mo7 a_mo8 a_mo11 a_mo16 ma md mq mz msz mat mpl mfa mth mpic mgiv mkep mmod mcoe mnmo mnco mby mwk) sz)) 0 0 (va_A (wd_mo_mo2_mo3_mo4_mo5_mo6_mo7_mo8_mo11_mo16 cI cB a_mo a_mo2 a_mo3 a_mo4 a_mo5 a_mo6 a_mo7 a_mo8 a_mo11 a_mo16 ma md mq mz msz mat mpl mfa mth mpic mgiv mkep mmod mcoe mnmo mnco mby mwk) sz) := by
  refine jm_metI (by decide +kernel) rfl rfl (Nat.le_of_ble_eq_true rfl) ?_
  intro p e s m args below meth c A Q ls C0 hP hD hl hret
  obtain ⟨hx, hb, hml, hr, hown, hts, hlocks, hA, hK, hE⟩ := C0
  have hS : va_S A s.heap s.heap [] := va_S.rf
  have hl : lv_has ls 3 [(0, .ref a_mo), (1, .int v1), (2, .int v2)] := hl
  unfold wp_X10_pixel at h
  have hP : va_P D vwCl [(a_mo, .inr (10, [.int ma, .int md, .ref a_mo2, .ref a_mo3, .ref a_mo4, .ref a_mo5, .ref a_mo6, .ref a_mo7, .ref a_mo8, .int mq, .int mz, .ref a_mo11, .int msz, .int mat, .int mpl, .int mfa, .ref a_mo16, .int mth])), (a_mo2, .inl (cI, 1024, .inl mpic)), (a_mo3, .inl (cI, 1024, .inl mgiv)), (a_mo4, .inl (cI, 1024, .inl mkep)), (a_mo5, .inl (cI, 64, .inl mmod)), (a_mo6, .inl (cI, 1024, .inl mcoe)), (a_mo7, .inl (cI, 64, .inl mnmo)), (a_mo8, .inl (cI, 1024, .inl mnco)), (a_mo11, .inl (cI, 8000, .inl mby)), (a_mo16, .inl (cI, 16, .inl mwk))] s.heap := hP
  have hD : va_D A [(a_mo, .inr (10, [.int ma, .int md, .ref a_mo2, .ref a_mo3, .ref a_mo4, .ref a_mo5, .ref a_mo6, .ref a_mo7, .ref a_mo8, .int mq, .int mz, .ref a_mo11, .int msz, .int mat, .int mpl, .int mfa, .ref a_mo16, .int mth])), (a_mo2, .inl (cI, 1024, .inl mpic)), (a_mo3, .inl (cI, 1024, .inl mgiv)), (a_mo4, .inl (cI, 1024, .inl mkep)), (a_mo5, .inl (cI, 64, .inl mmod)), (a_mo6, .inl (cI, 1024, .inl mcoe)), (a_mo7, .inl (cI, 64, .inl mnmo)), (a_mo8, .inl (cI, 1024, .inl mnco)), (a_mo11, .inl (cI, 8000, .inl mby)), (a_mo16, .inl (cI, 16, .inl mwk))] := hD
  have iX10 : ∀ w ∈ wsX100, w ∈ jw_X10_pixel := fun w h => List.mem_cons_of_mem _ (jm_iX10 w h)
  have lk13 := hts (.fieldLink RX10 13 "IntraMillModel" "down" "I") (List.mem_cons_of_mem _ mw_735)
  have lk16 := hts (.fieldLink RX10 16 "IntraMillModel" "picture" "[I") (List.mem_cons_of_mem _ mw_736)
  have lk47 := hts (.fieldLink RX10 47 "IntraMillModel" "thrown" "I") (List.mem_cons_of_mem _ mw_751)
  have lk7 := hts (.fieldLink RX10 7 "IntraMillModel" "across" "I") (List.mem_cons_of_mem _ mw_734)
  refine lv_aload_n hx hb dX10_pixel_0 rfl (lv_at hl 0 rfl) ?_
  refine lv_iconst (v := 0) hx hb dX10_pixel_1 (by decide) ?_
  refine va_put (D := D) (ci := 10) (v := .int 0) (ty := .int) (C := RX10) (T := TX10) (N := 18) hx hb hts iX10 tyX10 tyX10_ok nmX10 hown hK hP hD hS 0 rfl rfl 17 (by decide) lk47 (fun _ h9 => h9) rfl (by decide +kernel) rfl rfl (Nat.le_of_ble_eq_true rfl) dX10_pixel_2 (fun H_1 locs hP hD hS => ?_)
  have hP : va_P D vwCl [(a_mo, .inr (10, [.int ma, .int md, .ref a_mo2, .ref a_mo3, .ref a_mo4, .ref a_mo5, .ref a_mo6, .ref a_mo7, .ref a_mo8, .int mq, .int mz, .ref a_mo11, .int msz, .int mat, .int mpl, .int mfa, .ref a_mo16, .int 0])), (a_mo2, .inl (cI, 1024, .inl mpic)), (a_mo3, .inl (cI, 1024, .inl mgiv)), (a_mo4, .inl (cI, 1024, .inl mkep)), (a_mo5, .inl (cI, 64, .inl mmod)), (a_mo6, .inl (cI, 1024, .inl mcoe)), (a_mo7, .inl (cI, 64, .inl mnmo)), (a_mo8, .inl (cI, 1024, .inl mnco)), (a_mo11, .inl (cI, 8000, .inl mby)), (a_mo16, .inl (cI, 16, .inl mwk))] H_1 := hP
  have hD : va_D A [(a_mo, .inr (10, [.int ma, .int md, .ref a_mo2, .ref a_mo3, .ref a_mo4, .ref a_mo5, .ref a_mo6, .ref a_mo7, .ref a_mo8, .int mq, .int mz, .ref a_mo11, .int msz, .int mat, .int mpl, .int mfa, .ref a_mo16, .int 0])), (a_mo2, .inl (cI, 1024, .inl mpic)), (a_mo3, .inl (cI, 1024, .inl mgiv)), (a_mo4, .inl (cI, 1024, .inl mkep)), (a_mo5, .inl (cI, 64, .inl mmod)), (a_mo6, .inl (cI, 1024, .inl mcoe)), (a_mo7, .inl (cI, 64, .inl mnmo)), (a_mo8, .inl (cI, 1024, .inl mnco)), (a_mo11, .inl (cI, 8000, .inl mby)), (a_mo16, .inl (cI, 16, .inl mwk))] := hD
  refine lv_iload_n hx hb dX10_pixel_5 rfl (lv_at hl 1 rfl) ?_
  refine lv_iconst (v := 0) hx hb dX10_pixel_6 (by decide) ?_
  refine lv_iconst (v := 4) hx hb dX10_pixel_7 (by decide) ?_
  refine lv_aload_n hx hb dX10_pixel_8 rfl (lv_at hl 0 rfl) ?_
  refine va_get (D := D) (ci := 10) (v := .int ma) (C := RX10) (T := TX10) (N := 18) hx hb hts iX10 hown hK hP 0 rfl rfl 0 (by decide) lk7 (fun _ h9 => h9) rfl dX10_pixel_9 ?_
  refine lv_imul hx hb dX10_pixel_12 ?_
  refine lv_iconst (v := 1) hx hb dX10_pixel_13 (by decide) ?_
  refine lv_isub hx hb dX10_pixel_14 ?_
  have hPc := hP.sub (ws' := []) [] rfl
  have hDc := hD.sub (ws' := []) [] (by decide) rfl
  have hFc := va_free (wc := []) hD hS hA [] rfl
  refine jm_calli (wr := [(a_mo, .inr (10, [.int ma, .int md, .ref a_mo2, .ref a_mo3, .ref a_mo4, .ref a_mo5, .ref a_mo6, .ref a_mo7, .ref a_mo8, .int mq, .int mz, .ref a_mo11, .int msz, .int mat, .int mpl, .int mfa, .ref a_mo16, .int 0])), (a_mo2, .inl (cI, 1024, .inl mpic)), (a_mo3, .inl (cI, 1024, .inl mgiv)), (a_mo4, .inl (cI, 1024, .inl mkep)), (a_mo5, .inl (cI, 64, .inl mmod)), (a_mo6, .inl (cI, 1024, .inl mcoe)), (a_mo7, .inl (cI, 64, .inl mnmo)), (a_mo8, .inl (cI, 1024, .inl mnco)), (a_mo11, .inl (cI, 8000, .inl mby)), (a_mo16, .inl (cI, 16, .inl mwk))]) (va_runS (As := [.int v1, .int 0, .int ((4 * ma) - 1)]) (rest := []) ⟨hx, hb, hml, hown, hts⟩ (c_X10_within l D cI cB tt H_1.size v1 0 ((4 * ma) - 1) h) (va_cwS 3 hts (jm_gS mw_797 mw_798 mw_65 mw_799) rfl rfl rfl (by decide +kernel) ⟨Nat.le_of_ble_eq_true rfl, Nat.le_of_ble_eq_true rfl⟩) ⟨jm_blind, jm_pre hK hE hS hPc hDc hFc _⟩ rfl rfl hl.1 rfl (lv_room (Nat.le_of_ble_eq_true rfl)) dX10_pixel_15 ⟨Nat.zero_le _, Nat.zero_le _⟩) hS hP hD [] [0, 1, 2, 3, 4, 5, 6, 7, 8, 9] rfl rfl (by decide) (by decide) hFc (fun r_2 u_2 H_2 locs hw hP hD hS => ?_)
  have h := hw
  have hP : va_P D vwCl [(a_mo, .inr (10, [.int ma, .int md, .ref a_mo2, .ref a_mo3, .ref a_mo4, .ref a_mo5, .ref a_mo6, .ref a_mo7, .ref a_mo8, .int mq, .int mz, .ref a_mo11, .int msz, .int mat, .int mpl, .int mfa, .ref a_mo16, .int 0])), (a_mo2, .inl (cI, 1024, .inl mpic)), (a_mo3, .inl (cI, 1024, .inl mgiv)), (a_mo4, .inl (cI, 1024, .inl mkep)), (a_mo5, .inl (cI, 64, .inl mmod)), (a_mo6, .inl (cI, 1024, .inl mcoe)), (a_mo7, .inl (cI, 64, .inl mnmo)), (a_mo8, .inl (cI, 1024, .inl mnco)), (a_mo11, .inl (cI, 8000, .inl mby)), (a_mo16, .inl (cI, 16, .inl mwk))] H_2 := hP.sub [0, 1, 2, 3, 4, 5, 6, 7, 8, 9] rfl
  have hD : va_D A [(a_mo, .inr (10, [.int ma, .int md, .ref a_mo2, .ref a_mo3, .ref a_mo4, .ref a_mo5, .ref a_mo6, .ref a_mo7, .ref a_mo8, .int mq, .int mz, .ref a_mo11, .int msz, .int mat, .int mpl, .int mfa, .ref a_mo16, .int 0])), (a_mo2, .inl (cI, 1024, .inl mpic)), (a_mo3, .inl (cI, 1024, .inl mgiv)), (a_mo4, .inl (cI, 1024, .inl mkep)), (a_mo5, .inl (cI, 64, .inl mmod)), (a_mo6, .inl (cI, 1024, .inl mcoe)), (a_mo7, .inl (cI, 64, .inl mnmo)), (a_mo8, .inl (cI, 1024, .inl mnco)), (a_mo11, .inl (cI, 8000, .inl mby)), (a_mo16, .inl (cI, 16, .inl mwk))] := hD.sub [0, 1, 2, 3, 4, 5, 6, 7, 8, 9] (by decide) rfl
  refine lv_if_eq (tgt := 51) hx hb dX10_pixel_18 (by decide) (fun c_3 => ?_) (fun c_3 => ?_)
  · have h := h.1 c_3
    refine lv_iconst (v := (-1)) hx hb dX10_pixel_51 (by decide) ?_
    exact hret (-1) (0) _ _ _ _ dX10_pixel_52 (vp_nar_int _) h hP hD hS
  · have h := h.2 c_3
    refine lv_iload_n hx hb dX10_pixel_21 rfl (lv_at hl 2 rfl) ?_
    refine lv_iconst (v := 0) hx hb dX10_pixel_22 (by decide) ?_
    refine lv_iconst (v := 4) hx hb dX10_pixel_23 (by decide) ?_
    refine lv_aload_n hx hb dX10_pixel_24 rfl (lv_at hl 0 rfl) ?_
    refine va_get (D := D) (ci := 10) (v := .int md) (C := RX10) (T := TX10) (N := 18) hx hb hts iX10 hown hK hP 0 rfl rfl 1 (by decide) lk13 (fun _ h9 => h9) rfl dX10_pixel_25 ?_
    refine lv_imul hx hb dX10_pixel_28 ?_
    refine lv_iconst (v := 1) hx hb dX10_pixel_29 (by decide) ?_
    refine lv_isub hx hb dX10_pixel_30 ?_
    have hPc := hP.sub (ws' := []) [] rfl
    have hDc := hD.sub (ws' := []) [] (by decide) rfl
    have hFc := va_free (wc := []) hD hS hA [] rfl
    refine jm_calli (wr := [(a_mo, .inr (10, [.int ma, .int md, .ref a_mo2, .ref a_mo3, .ref a_mo4, .ref a_mo5, .ref a_mo6, .ref a_mo7, .ref a_mo8, .int mq, .int mz, .ref a_mo11, .int msz, .int mat, .int mpl, .int mfa, .ref a_mo16, .int 0])), (a_mo2, .inl (cI, 1024, .inl mpic)), (a_mo3, .inl (cI, 1024, .inl mgiv)), (a_mo4, .inl (cI, 1024, .inl mkep)), (a_mo5, .inl (cI, 64, .inl mmod)), (a_mo6, .inl (cI, 1024, .inl mcoe)), (a_mo7, .inl (cI, 64, .inl mnmo)), (a_mo8, .inl (cI, 1024, .inl mnco)), (a_mo11, .inl (cI, 8000, .inl mby)), (a_mo16, .inl (cI, 16, .inl mwk))]) (va_runS (As := [.int v2, .int 0, .int ((4 * md) - 1)]) (rest := []) ⟨hx, hb, hml, hown, hts⟩ (c_X10_within l D cI cB tt H_2.size v2 0 ((4 * md) - 1) h) (va_cwS 3 hts (jm_gS mw_797 mw_798 mw_65 mw_799) rfl rfl rfl (by decide +kernel) ⟨Nat.le_of_ble_eq_true rfl, Nat.le_of_ble_eq_true rfl⟩) ⟨jm_blind, jm_pre hK hE hS hPc hDc hFc _⟩ rfl rfl hl.1 rfl (lv_room (Nat.le_of_ble_eq_true rfl)) dX10_pixel_31 ⟨Nat.zero_le _, Nat.zero_le _⟩) hS hP hD [] [0, 1, 2, 3, 4, 5, 6, 7, 8, 9] rfl rfl (by decide) (by decide) hFc (fun r_4 u_4 H_4 locs hw hP hD hS => ?_)
    have h := hw
    have hP : va_P D vwCl [(a_mo, .inr (10, [.int ma, .int md, .ref a_mo2, .ref a_mo3, .ref a_mo4, .ref a_mo5, .ref a_mo6, .ref a_mo7, .ref a_mo8, .int mq, .int mz, .ref a_mo11, .int msz, .int mat, .int mpl, .int mfa, .ref a_mo16, .int 0])), (a_mo2, .inl (cI, 1024, .inl mpic)), (a_mo3, .inl (cI, 1024, .inl mgiv)), (a_mo4, .inl (cI, 1024, .inl mkep)), (a_mo5, .inl (cI, 64, .inl mmod)), (a_mo6, .inl (cI, 1024, .inl mcoe)), (a_mo7, .inl (cI, 64, .inl mnmo)), (a_mo8, .inl (cI, 1024, .inl mnco)), (a_mo11, .inl (cI, 8000, .inl mby)), (a_mo16, .inl (cI, 16, .inl mwk))] H_4 := hP.sub [0, 1, 2, 3, 4, 5, 6, 7, 8, 9] rfl
    have hD : va_D A [(a_mo, .inr (10, [.int ma, .int md, .ref a_mo2, .ref a_mo3, .ref a_mo4, .ref a_mo5, .ref a_mo6, .ref a_mo7, .ref a_mo8, .int mq, .int mz, .ref a_mo11, .int msz, .int mat, .int mpl, .int mfa, .ref a_mo16, .int 0])), (a_mo2, .inl (cI, 1024, .inl mpic)), (a_mo3, .inl (cI, 1024, .inl mgiv)), (a_mo4, .inl (cI, 1024, .inl mkep)), (a_mo5, .inl (cI, 64, .inl mmod)), (a_mo6, .inl (cI, 1024, .inl mcoe)), (a_mo7, .inl (cI, 64, .inl mnmo)), (a_mo8, .inl (cI, 1024, .inl mnco)), (a_mo11, .inl (cI, 8000, .inl mby)), (a_mo16, .inl (cI, 16, .inl mwk))] := hD.sub [0, 1, 2, 3, 4, 5, 6, 7, 8, 9] (by decide) rfl
    refine lv_if_eq (tgt := 51) hx hb dX10_pixel_34 (by decide) (fun c_5 => ?_) (fun c_5 => ?_)
    · have h := h.1 c_5
      refine lv_iconst (v := (-1)) hx hb dX10_pixel_51 (by decide) ?_
      exact hret (-1) (0) _ _ _ _ dX10_pixel_52 (vp_nar_int _) h hP hD hS
    · have h := h.2 c_5
      refine lv_aload_n hx hb dX10_pixel_37 rfl (lv_at hl 0 rfl) ?_
      refine va_get (D := D) (ci := 10) (v := .ref a_mo2) (C := RX10) (T := TX10) (N := 18) hx hb hts iX10 hown hK hP 0 rfl rfl 2 (by decide) lk16 (fun _ h9 => h9) rfl dX10_pixel_38 ?_
      refine lv_bipush (v := 32) hx hb dX10_pixel_41 (by decide) ?_
      refine lv_iload_n hx hb dX10_pixel_43 rfl (lv_at hl 2 rfl) ?_
      refine lv_imul hx hb dX10_pixel_44 ?_
      refine lv_iload_n hx hb dX10_pixel_45 rfl (lv_at hl 1 rfl) ?_
      refine lv_iadd hx hb dX10_pixel_46 ?_
      obtain ⟨hi_6, h⟩ := h
      refine va_iald hx hb hK hP 1 0 rfl rfl hi_6 dX10_pixel_47 ?_
      refine lv_goto (tgt := 52) hx hb dX10_pixel_48 (by decide) ?_
      exact hret (jat mpic ((32 * v2) + v1)) (0) _ _ _ _ dX10_pixel_52 (vp_nar_int _) h hP hD hS
def wp_X10_hasAbove (ma : Int32) (v1 : Int32) (K : Int32 → Prop) : Prop := ((v1 < ma → K 0) ∧ (¬ v1 < ma → K 1))
abbrev jw_X10_hasAbove : List Cond := .code yX10_hasAbove cX10_hasAbove 2 (some .boolean) :: jmAll
abbrev rmX10_hasAbove : Room := { frames := 0, cells := 0, slots := 0, locals := 0 }
set_option maxHeartbeats 4000000 in
set_option maxRecDepth 100000 in
theorem c_X10_hasAbove (l : Launch) (D : va_G) (cI cB : ClassId) (tt : Nat × Nat × Nat) (a_mo a_mo2 a_mo3 a_mo4 a_mo5 a_mo6 a_mo7 a_mo8 a_mo11 a_mo16 : Nat) (sz : Nat) (ma : Int32) (md : Int32) (mq : Int32) (mz : Int32) (msz : Int32) (mat : Int32) (mpl : Int32) (mfa : Int32) (mth : Int32) (mpic : (Nat → Int32)) (mgiv : (Nat → Int32)) (mkep : (Nat → Int32)) (mmod : (Nat → Int32)) (mcoe : (Nat → Int32)) (mnmo : (Nat → Int32)) (mnco : (Nat → Int32)) (mby : (Nat → Int32)) (mwk : (Nat → Int32)) (v1 : Int32) {K : Int32 → Prop} (h : wp_X10_hasAbove ma v1 K) : Met l yX10_hasAbove jw_X10_hasAbove rmX10_hasAbove (va_Pc [.ref a_mo, .int v1] (jm_Pre D cI cB tt (wd_mo_mo2_mo3_mo4_mo5_mo6_mo7_mo8_mo11_mo16 cI cB a_mo a_mo2 a_mo3 a_mo4 a_mo5 a_mo6 a_mo7 a_mo8 a_mo11 a_mo16 ma md mq mz msz mat mpl mfa mth mpic mgiv mkep mmod mcoe mnmo mnco mby mwk) sz)) (va_Qi (fun (r : Int32) (u : Unit) => K r) (jm_Post D cI cB (wd_mo_mo2_mo3_mo4_mo5_mo6_mo7_mo8_mo11_mo16 cI cB a_mo a_mo2 a_mo3 a_mo4 a_mo5 a_mo6 a_mo7 a_mo8 a_mo11 a_mo16 ma md mq mz msz mat mpl mfa mth mpic mgiv mkep mmod mcoe mnmo mnco mby mwk) sz (fun (u : Unit) => wd_mo_mo2_mo3_mo4_mo5_mo6_mo7_mo8_mo11_mo16 cI cB a_mo a_mo2 a_mo3 a_mo4 a_mo5 a_mo6 a_mo7 a_mo8 a_mo11 a_mo16 ma md mq mz msz mat mpl mfa mth mpic mgiv mkep mmod mcoe mnmo mnco mby mwk)) (va_A (wd_mo_mo2_mo3_mo4_mo5_mo6_mo7_mo8_mo11_mo16 cI cB a_mo a_mo2 a_mo3 a_mo4 a_mo5 a_mo6 a_mo7 a_mo8 a_mo11 a_mo16 ma md mq mz msz mat mpl mfa mth mpic mgiv mkep mmod mcoe mnmo mnco mby mwk) sz)) 0 0 (va_A (wd_mo_mo2_mo3_mo4_mo5_mo6_mo7_mo8_mo11_mo16 cI cB a_mo a_mo2 a_mo3 a_mo4 a_mo5 a_mo6 a_mo7 a_mo8 a_mo11 a_mo16 ma md mq mz msz mat mpl mfa mth mpic mgiv mkep mmod mcoe mnmo mnco mby mwk) sz) := by
  refine jm_metI (by decide +kernel) rfl rfl (Nat.le_of_ble_eq_true rfl) ?_
  intro p e s m args below meth c A Q ls C0 hP hD hl hret
  obtain ⟨hx, hb, hml, hr, hown, hts, hlocks, hA, hK, hE⟩ := C0
  have hS : va_S A s.heap s.heap [] := va_S.rf
  have hl : lv_has ls 2 [(0, .ref a_mo), (1, .int v1)] := hl
  unfold wp_X10_hasAbove at h
  have hP : va_P D vwCl [(a_mo, .inr (10, [.int ma, .int md, .ref a_mo2, .ref a_mo3, .ref a_mo4, .ref a_mo5, .ref a_mo6, .ref a_mo7, .ref a_mo8, .int mq, .int mz, .ref a_mo11, .int msz, .int mat, .int mpl, .int mfa, .ref a_mo16, .int mth])), (a_mo2, .inl (cI, 1024, .inl mpic)), (a_mo3, .inl (cI, 1024, .inl mgiv)), (a_mo4, .inl (cI, 1024, .inl mkep)), (a_mo5, .inl (cI, 64, .inl mmod)), (a_mo6, .inl (cI, 1024, .inl mcoe)), (a_mo7, .inl (cI, 64, .inl mnmo)), (a_mo8, .inl (cI, 1024, .inl mnco)), (a_mo11, .inl (cI, 8000, .inl mby)), (a_mo16, .inl (cI, 16, .inl mwk))] s.heap := hP
  have hD : va_D A [(a_mo, .inr (10, [.int ma, .int md, .ref a_mo2, .ref a_mo3, .ref a_mo4, .ref a_mo5, .ref a_mo6, .ref a_mo7, .ref a_mo8, .int mq, .int mz, .ref a_mo11, .int msz, .int mat, .int mpl, .int mfa, .ref a_mo16, .int mth])), (a_mo2, .inl (cI, 1024, .inl mpic)), (a_mo3, .inl (cI, 1024, .inl mgiv)), (a_mo4, .inl (cI, 1024, .inl mkep)), (a_mo5, .inl (cI, 64, .inl mmod)), (a_mo6, .inl (cI, 1024, .inl mcoe)), (a_mo7, .inl (cI, 64, .inl mnmo)), (a_mo8, .inl (cI, 1024, .inl mnco)), (a_mo11, .inl (cI, 8000, .inl mby)), (a_mo16, .inl (cI, 16, .inl mwk))] := hD
  have iX10 : ∀ w ∈ wsX100, w ∈ jw_X10_hasAbove := fun w h => List.mem_cons_of_mem _ (jm_iX10 w h)
  have lk7 := hts (.fieldLink RX10 7 "IntraMillModel" "across" "I") (List.mem_cons_of_mem _ mw_734)
  refine lv_iload_n hx hb dX10_hasAbove_0 rfl (lv_at hl 1 rfl) ?_
  refine lv_aload_n hx hb dX10_hasAbove_1 rfl (lv_at hl 0 rfl) ?_
  refine va_get (D := D) (ci := 10) (v := .int ma) (C := RX10) (T := TX10) (N := 18) hx hb hts iX10 hown hK hP 0 rfl rfl 0 (by decide) lk7 (fun _ h9 => h9) rfl dX10_hasAbove_2 ?_
  refine lv_icmp_lt (tgt := 12) hx hb dX10_hasAbove_5 (by decide) (fun c_1 => ?_) (fun c_1 => ?_)
  · have h := h.1 c_1
    refine lv_iconst (v := 0) hx hb dX10_hasAbove_12 (by decide) ?_
    exact hret 0 () _ _ _ _ dX10_hasAbove_13 (by decide) h hP hD hS
  · have h := h.2 c_1
    refine lv_iconst (v := 1) hx hb dX10_hasAbove_8 (by decide) ?_
    refine lv_goto (tgt := 13) hx hb dX10_hasAbove_9 (by decide) ?_
    exact hret 1 () _ _ _ _ dX10_hasAbove_13 (by decide) h hP hD hS
def wp_X10_hasLeft (ma : Int32) (v1 : Int32) (K : Int32 → Prop) : Prop := ¬ ma = 0 ∧ (((jrem v1 ma) ≤ 0 → K 0) ∧ (¬ (jrem v1 ma) ≤ 0 → K 1))
abbrev jw_X10_hasLeft : List Cond := .code yX10_hasLeft cX10_hasLeft 2 (some .boolean) :: jmAll
abbrev rmX10_hasLeft : Room := { frames := 0, cells := 0, slots := 0, locals := 0 }
set_option maxHeartbeats 4000000 in
set_option maxRecDepth 100000 in
theorem c_X10_hasLeft (l : Launch) (D : va_G) (cI cB : ClassId) (tt : Nat × Nat × Nat) (a_mo a_mo2 a_mo3 a_mo4 a_mo5 a_mo6 a_mo7 a_mo8 a_mo11 a_mo16 : Nat) (sz : Nat) (ma : Int32) (md : Int32) (mq : Int32) (mz : Int32) (msz : Int32) (mat : Int32) (mpl : Int32) (mfa : Int32) (mth : Int32) (mpic : (Nat → Int32)) (mgiv : (Nat → Int32)) (mkep : (Nat → Int32)) (mmod : (Nat → Int32)) (mcoe : (Nat → Int32)) (mnmo : (Nat → Int32)) (mnco : (Nat → Int32)) (mby : (Nat → Int32)) (mwk : (Nat → Int32)) (v1 : Int32) {K : Int32 → Prop} (h : wp_X10_hasLeft ma v1 K) : Met l yX10_hasLeft jw_X10_hasLeft rmX10_hasLeft (va_Pc [.ref a_mo, .int v1] (jm_Pre D cI cB tt (wd_mo_mo2_mo3_mo4_mo5_mo6_mo7_mo8_mo11_mo16 cI cB a_mo a_mo2 a_mo3 a_mo4 a_mo5 a_mo6 a_mo7 a_mo8 a_mo11 a_mo16 ma md mq mz msz mat mpl mfa mth mpic mgiv mkep mmod mcoe mnmo mnco mby mwk) sz)) (va_Qi (fun (r : Int32) (u : Unit) => K r) (jm_Post D cI cB (wd_mo_mo2_mo3_mo4_mo5_mo6_mo7_mo8_mo11_mo16 cI cB a_mo a_mo2 a_mo3 a_mo4 a_mo5 a_mo6 a_mo7 a_mo8 a_mo11 a_mo16 ma md mq mz msz mat mpl mfa mth mpic mgiv mkep mmod mcoe mnmo mnco mby mwk) sz (fun (u : Unit) => wd_mo_mo2_mo3_mo4_mo5_mo6_mo7_mo8_mo11_mo16 cI cB a_mo a_mo2 a_mo3 a_mo4 a_mo5 a_mo6 a_mo7 a_mo8 a_mo11 a_mo16 ma md mq mz msz mat mpl mfa mth mpic mgiv mkep mmod mcoe mnmo mnco mby mwk)) (va_A (wd_mo_mo2_mo3_mo4_mo5_mo6_mo7_mo8_mo11_mo16 cI cB a_mo a_mo2 a_mo3 a_mo4 a_mo5 a_mo6 a_mo7 a_mo8 a_mo11 a_mo16 ma md mq mz msz mat mpl mfa mth mpic mgiv mkep mmod mcoe mnmo mnco mby mwk) sz)) 0 0 (va_A (wd_mo_mo2_mo3_mo4_mo5_mo6_mo7_mo8_mo11_mo16 cI cB a_mo a_mo2 a_mo3 a_mo4 a_mo5 a_mo6 a_mo7 a_mo8 a_mo11 a_mo16 ma md mq mz msz mat mpl mfa mth mpic mgiv mkep mmod mcoe mnmo mnco mby mwk) sz) := by
  refine jm_metI (by decide +kernel) rfl rfl (Nat.le_of_ble_eq_true rfl) ?_
  intro p e s m args below meth c A Q ls C0 hP hD hl hret
  obtain ⟨hx, hb, hml, hr, hown, hts, hlocks, hA, hK, hE⟩ := C0
  have hS : va_S A s.heap s.heap [] := va_S.rf
  have hl : lv_has ls 2 [(0, .ref a_mo), (1, .int v1)] := hl
  unfold wp_X10_hasLeft at h
  have hP : va_P D vwCl [(a_mo, .inr (10, [.int ma, .int md, .ref a_mo2, .ref a_mo3, .ref a_mo4, .ref a_mo5, .ref a_mo6, .ref a_mo7, .ref a_mo8, .int mq, .int mz, .ref a_mo11, .int msz, .int mat, .int mpl, .int mfa, .ref a_mo16, .int mth])), (a_mo2, .inl (cI, 1024, .inl mpic)), (a_mo3, .inl (cI, 1024, .inl mgiv)), (a_mo4, .inl (cI, 1024, .inl mkep)), (a_mo5, .inl (cI, 64, .inl mmod)), (a_mo6, .inl (cI, 1024, .inl mcoe)), (a_mo7, .inl (cI, 64, .inl mnmo)), (a_mo8, .inl (cI, 1024, .inl mnco)), (a_mo11, .inl (cI, 8000, .inl mby)), (a_mo16, .inl (cI, 16, .inl mwk))] s.heap := hP
  have hD : va_D A [(a_mo, .inr (10, [.int ma, .int md, .ref a_mo2, .ref a_mo3, .ref a_mo4, .ref a_mo5, .ref a_mo6, .ref a_mo7, .ref a_mo8, .int mq, .int mz, .ref a_mo11, .int msz, .int mat, .int mpl, .int mfa, .ref a_mo16, .int mth])), (a_mo2, .inl (cI, 1024, .inl mpic)), (a_mo3, .inl (cI, 1024, .inl mgiv)), (a_mo4, .inl (cI, 1024, .inl mkep)), (a_mo5, .inl (cI, 64, .inl mmod)), (a_mo6, .inl (cI, 1024, .inl mcoe)), (a_mo7, .inl (cI, 64, .inl mnmo)), (a_mo8, .inl (cI, 1024, .inl mnco)), (a_mo11, .inl (cI, 8000, .inl mby)), (a_mo16, .inl (cI, 16, .inl mwk))] := hD
  have iX10 : ∀ w ∈ wsX100, w ∈ jw_X10_hasLeft := fun w h => List.mem_cons_of_mem _ (jm_iX10 w h)
  have lk7 := hts (.fieldLink RX10 7 "IntraMillModel" "across" "I") (List.mem_cons_of_mem _ mw_734)
  refine lv_iload_n hx hb dX10_hasLeft_0 rfl (lv_at hl 1 rfl) ?_
  refine lv_aload_n hx hb dX10_hasLeft_1 rfl (lv_at hl 0 rfl) ?_
  refine va_get (D := D) (ci := 10) (v := .int ma) (C := RX10) (T := TX10) (N := 18) hx hb hts iX10 hown hK hP 0 rfl rfl 0 (by decide) lk7 (fun _ h9 => h9) rfl dX10_hasLeft_2 ?_
  obtain ⟨hz_1, h⟩ := h
  refine lv_irem hx hb dX10_hasLeft_5 hz_1 ?_
  refine lv_if_le (tgt := 13) hx hb dX10_hasLeft_6 (by decide) (fun c_2 => ?_) (fun c_2 => ?_)
  · have h := h.1 c_2
    refine lv_iconst (v := 0) hx hb dX10_hasLeft_13 (by decide) ?_
    exact hret 0 () _ _ _ _ dX10_hasLeft_14 (by decide) h hP hD hS
  · have h := h.2 c_2
    refine lv_iconst (v := 1) hx hb dX10_hasLeft_9 (by decide) ?_
    refine lv_goto (tgt := 14) hx hb dX10_hasLeft_10 (by decide) ?_
    exact hret 1 () _ _ _ _ dX10_hasLeft_14 (by decide) h hP hD hS
def wp_X10_above (ma : Int32) (mpic : (Nat → Int32)) (v1 v2 : Int32) (K : Int32 → Prop) : Prop := ¬ ma = 0 ∧ jn1 (fun (t0_2 : Int32) => jn1 (fun (t0_3 : Int32) => ¬ ma = 0 ∧ ¬ ma = 0 ∧ vp_in (((32 * ((4 * (v1 / ma)) - 1)) + (4 * (jrem v1 ma))) + t0_3) 1024 ∧ K (jat mpic (((32 * ((4 * (v1 / ma)) - 1)) + (4 * (jrem v1 ma))) + t0_3))) (fun J_3 => ((v2 ≤ t0_2 → J_3 v2) ∧ (¬ v2 ≤ t0_2 → J_3 t0_2)))) (fun J_2 => ((ma ≤ ((jrem v1 ma) + 1) → J_2 3) ∧ (¬ ma ≤ ((jrem v1 ma) + 1) → J_2 7)))
abbrev jw_X10_above : List Cond := .code yX10_above cX10_above 5 (some .int) :: jmAll
abbrev rmX10_above : Room := { frames := 0, cells := 0, slots := 0, locals := 0 }
set_option maxHeartbeats 4000000 in
set_option maxRecDepth 100000 in
theorem c_X10_above (l : Launch) (D : va_G) (cI cB : ClassId) (tt : Nat × Nat × Nat) (a_mo a_mo2 a_mo3 a_mo4 a_mo5 a_mo6 a_mo7 a_mo8 a_mo11 a_mo16 : Nat) (sz : Nat) (ma : Int32) (md : Int32) (mq : Int32) (mz : Int32) (msz : Int32) (mat : Int32) (mpl : Int32) (mfa : Int32) (mth : Int32) (mpic : (Nat → Int32)) (mgiv : (Nat → Int32)) (mkep : (Nat → Int32)) (mmod : (Nat → Int32)) (mcoe : (Nat → Int32)) (mnmo : (Nat → Int32)) (mnco : (Nat → Int32)) (mby : (Nat → Int32)) (mwk : (Nat → Int32)) (v1 v2 : Int32) {K : Int32 → Prop} (h : wp_X10_above ma mpic v1 v2 K) : Met l yX10_above jw_X10_above rmX10_above (va_Pc [.ref a_mo, .int v1, .int v2] (jm_Pre D cI cB tt (wd_mo_mo2_mo3_mo4_mo5_mo6_mo7_mo8_mo11_mo16 cI cB a_mo a_mo2 a_mo3 a_mo4 a_mo5 a_mo6 a_mo7 a_mo8 a_mo11 a_mo16 ma md mq mz msz mat mpl mfa mth mpic mgiv mkep mmod mcoe mnmo mnco mby mwk) sz)) (va_Qi (fun (r : Int32) (u : Unit) => K r) (jm_Post D cI cB (wd_mo_mo2_mo3_mo4_mo5_mo6_mo7_mo8_mo11_mo16 cI cB a_mo a_mo2 a_mo3 a_mo4 a_mo5 a_mo6 a_mo7 a_mo8 a_mo11 a_mo16 ma md mq mz msz mat mpl mfa mth mpic mgiv mkep mmod mcoe mnmo mnco mby mwk) sz (fun (u : Unit) => wd_mo_mo2_mo3_mo4_mo5_mo6_mo7_mo8_mo11_mo16 cI cB a_mo a_mo2 a_mo3 a_mo4 a_mo5 a_mo6 a_mo7 a_mo8 a_mo11 a_mo16 ma md mq mz msz mat mpl mfa mth mpic mgiv mkep mmod mcoe mnmo mnco mby mwk)) (va_A (wd_mo_mo2_mo3_mo4_mo5_mo6_mo7_mo8_mo11_mo16 cI cB a_mo a_mo2 a_mo3 a_mo4 a_mo5 a_mo6 a_mo7 a_mo8 a_mo11 a_mo16 ma md mq mz msz mat mpl mfa mth mpic mgiv mkep mmod mcoe mnmo mnco mby mwk) sz)) 0 0 (va_A (wd_mo_mo2_mo3_mo4_mo5_mo6_mo7_mo8_mo11_mo16 cI cB a_mo a_mo2 a_mo3 a_mo4 a_mo5 a_mo6 a_mo7 a_mo8 a_mo11 a_mo16 ma md mq mz msz mat mpl mfa mth mpic mgiv mkep mmod mcoe mnmo mnco mby mwk) sz) := by
  refine jm_metI (by decide +kernel) rfl rfl (Nat.le_of_ble_eq_true rfl) ?_
  intro p e s m args below meth c A Q ls C0 hP hD hl hret
  obtain ⟨hx, hb, hml, hr, hown, hts, hlocks, hA, hK, hE⟩ := C0
  have hS : va_S A s.heap s.heap [] := va_S.rf
  have hl : lv_has ls 5 [(0, .ref a_mo), (1, .int v1), (2, .int v2)] := hl
  unfold wp_X10_above at h
  have hP : va_P D vwCl [(a_mo, .inr (10, [.int ma, .int md, .ref a_mo2, .ref a_mo3, .ref a_mo4, .ref a_mo5, .ref a_mo6, .ref a_mo7, .ref a_mo8, .int mq, .int mz, .ref a_mo11, .int msz, .int mat, .int mpl, .int mfa, .ref a_mo16, .int mth])), (a_mo2, .inl (cI, 1024, .inl mpic)), (a_mo3, .inl (cI, 1024, .inl mgiv)), (a_mo4, .inl (cI, 1024, .inl mkep)), (a_mo5, .inl (cI, 64, .inl mmod)), (a_mo6, .inl (cI, 1024, .inl mcoe)), (a_mo7, .inl (cI, 64, .inl mnmo)), (a_mo8, .inl (cI, 1024, .inl mnco)), (a_mo11, .inl (cI, 8000, .inl mby)), (a_mo16, .inl (cI, 16, .inl mwk))] s.heap := hP
  have hD : va_D A [(a_mo, .inr (10, [.int ma, .int md, .ref a_mo2, .ref a_mo3, .ref a_mo4, .ref a_mo5, .ref a_mo6, .ref a_mo7, .ref a_mo8, .int mq, .int mz, .ref a_mo11, .int msz, .int mat, .int mpl, .int mfa, .ref a_mo16, .int mth])), (a_mo2, .inl (cI, 1024, .inl mpic)), (a_mo3, .inl (cI, 1024, .inl mgiv)), (a_mo4, .inl (cI, 1024, .inl mkep)), (a_mo5, .inl (cI, 64, .inl mmod)), (a_mo6, .inl (cI, 1024, .inl mcoe)), (a_mo7, .inl (cI, 64, .inl mnmo)), (a_mo8, .inl (cI, 1024, .inl mnco)), (a_mo11, .inl (cI, 8000, .inl mby)), (a_mo16, .inl (cI, 16, .inl mwk))] := hD
  have iX10 : ∀ w ∈ wsX100, w ∈ jw_X10_above := fun w h => List.mem_cons_of_mem _ (jm_iX10 w h)
  have lk16 := hts (.fieldLink RX10 16 "IntraMillModel" "picture" "[I") (List.mem_cons_of_mem _ mw_736)
  have lk7 := hts (.fieldLink RX10 7 "IntraMillModel" "across" "I") (List.mem_cons_of_mem _ mw_734)
  refine lv_iload_n hx hb dX10_above_0 rfl (lv_at hl 1 rfl) ?_
  refine lv_aload_n hx hb dX10_above_1 rfl (lv_at hl 0 rfl) ?_
  refine va_get (D := D) (ci := 10) (v := .int ma) (C := RX10) (T := TX10) (N := 18) hx hb hts iX10 hown hK hP 0 rfl rfl 0 (by decide) lk7 (fun _ h9 => h9) rfl dX10_above_2 ?_
  obtain ⟨hz_1, h⟩ := h
  refine lv_irem hx hb dX10_above_5 hz_1 ?_
  refine lv_iconst (v := 1) hx hb dX10_above_6 (by decide) ?_
  refine lv_iadd hx hb dX10_above_7 ?_
  refine lv_aload_n hx hb dX10_above_8 rfl (lv_at hl 0 rfl) ?_
  refine va_get (D := D) (ci := 10) (v := .int ma) (C := RX10) (T := TX10) (N := 18) hx hb hts iX10 hown hK hP 0 rfl rfl 0 (by decide) lk7 (fun _ h9 => h9) rfl dX10_above_9 ?_
  obtain ⟨J_2, hj_2, h⟩ := jn1_out h
  have hJ_2 : ∀ (t0_2 : Int32), ∀ (H : Heap) (locs : List Loc) (ls : Array Slot), J_2 t0_2 → va_P D vwCl [(a_mo, .inr (10, [.int ma, .int md, .ref a_mo2, .ref a_mo3, .ref a_mo4, .ref a_mo5, .ref a_mo6, .ref a_mo7, .ref a_mo8, .int mq, .int mz, .ref a_mo11, .int msz, .int mat, .int mpl, .int mfa, .ref a_mo16, .int mth])), (a_mo2, .inl (cI, 1024, .inl mpic)), (a_mo3, .inl (cI, 1024, .inl mgiv)), (a_mo4, .inl (cI, 1024, .inl mkep)), (a_mo5, .inl (cI, 64, .inl mmod)), (a_mo6, .inl (cI, 1024, .inl mcoe)), (a_mo7, .inl (cI, 64, .inl mnmo)), (a_mo8, .inl (cI, 1024, .inl mnco)), (a_mo11, .inl (cI, 8000, .inl mby)), (a_mo16, .inl (cI, 16, .inl mwk))] H → va_D A [(a_mo, .inr (10, [.int ma, .int md, .ref a_mo2, .ref a_mo3, .ref a_mo4, .ref a_mo5, .ref a_mo6, .ref a_mo7, .ref a_mo8, .int mq, .int mz, .ref a_mo11, .int msz, .int mat, .int mpl, .int mfa, .ref a_mo16, .int mth])), (a_mo2, .inl (cI, 1024, .inl mpic)), (a_mo3, .inl (cI, 1024, .inl mgiv)), (a_mo4, .inl (cI, 1024, .inl mkep)), (a_mo5, .inl (cI, 64, .inl mmod)), (a_mo6, .inl (cI, 1024, .inl mcoe)), (a_mo7, .inl (cI, 64, .inl mnmo)), (a_mo8, .inl (cI, 1024, .inl mnco)), (a_mo11, .inl (cI, 8000, .inl mby)), (a_mo16, .inl (cI, 16, .inl mwk))] → va_S A s.heap H locs → lv_has ls 5 [(0, .ref a_mo), (1, .int v1), (2, .int v2)] → W p l e rmX10_above s m args below meth c H locs 0 0 Q (F0 m 21 ls [.int t0_2]) := by
    intro t0_2 H locs ls h hP hD hS hl
    have h := hj_2 t0_2 h
    refine lv_istore_n (lv' := [(3, .int t0_2), (0, .ref a_mo), (1, .int v1), (2, .int v2)]) hx hb dX10_above_21 rfl hl (by decide) rfl (fun ls hl => ?_)
    refine lv_iload_n hx hb dX10_above_22 rfl (lv_at hl 3 rfl) ?_
    refine lv_iload_n hx hb dX10_above_23 rfl (lv_at hl 0 rfl) ?_
    obtain ⟨J_3, hj_3, h⟩ := jn1_out h
    have hJ_3 : ∀ (t0_3 : Int32), ∀ (H : Heap) (locs : List Loc) (ls : Array Slot), J_3 t0_3 → va_P D vwCl [(a_mo, .inr (10, [.int ma, .int md, .ref a_mo2, .ref a_mo3, .ref a_mo4, .ref a_mo5, .ref a_mo6, .ref a_mo7, .ref a_mo8, .int mq, .int mz, .ref a_mo11, .int msz, .int mat, .int mpl, .int mfa, .ref a_mo16, .int mth])), (a_mo2, .inl (cI, 1024, .inl mpic)), (a_mo3, .inl (cI, 1024, .inl mgiv)), (a_mo4, .inl (cI, 1024, .inl mkep)), (a_mo5, .inl (cI, 64, .inl mmod)), (a_mo6, .inl (cI, 1024, .inl mcoe)), (a_mo7, .inl (cI, 64, .inl mnmo)), (a_mo8, .inl (cI, 1024, .inl mnco)), (a_mo11, .inl (cI, 8000, .inl mby)), (a_mo16, .inl (cI, 16, .inl mwk))] H → va_D A [(a_mo, .inr (10, [.int ma, .int md, .ref a_mo2, .ref a_mo3, .ref a_mo4, .ref a_mo5, .ref a_mo6, .ref a_mo7, .ref a_mo8, .int mq, .int mz, .ref a_mo11, .int msz, .int mat, .int mpl, .int mfa, .ref a_mo16, .int mth])), (a_mo2, .inl (cI, 1024, .inl mpic)), (a_mo3, .inl (cI, 1024, .inl mgiv)), (a_mo4, .inl (cI, 1024, .inl mkep)), (a_mo5, .inl (cI, 64, .inl mmod)), (a_mo6, .inl (cI, 1024, .inl mcoe)), (a_mo7, .inl (cI, 64, .inl mnmo)), (a_mo8, .inl (cI, 1024, .inl mnco)), (a_mo11, .inl (cI, 8000, .inl mby)), (a_mo16, .inl (cI, 16, .inl mwk))] → va_S A s.heap H locs → lv_has ls 5 [(0, .ref a_mo), (1, .int v1), (2, .int v2), (3, .int t0_2)] → W p l e rmX10_above s m args below meth c H locs 0 0 Q (F0 m 32 ls [.int t0_3]) := by
      intro t0_3 H locs ls h hP hD hS hl
      have h := hj_3 t0_3 h
      refine lv_istore (lv' := [(4, .int t0_3), (0, .ref a_mo), (1, .int v1), (2, .int v2), (3, .int t0_2)]) hx hb dX10_above_32 hl (by decide) rfl (fun ls hl => ?_)
      refine lv_aload_n hx hb dX10_above_34 rfl (lv_at hl 1 rfl) ?_
      refine va_get (D := D) (ci := 10) (v := .ref a_mo2) (C := RX10) (T := TX10) (N := 18) hx hb hts iX10 hown hK hP 0 rfl rfl 2 (by decide) lk16 (fun _ h9 => h9) rfl dX10_above_35 ?_
      refine lv_bipush (v := 32) hx hb dX10_above_38 (by decide) ?_
      refine lv_iconst (v := 4) hx hb dX10_above_40 (by decide) ?_
      refine lv_iload_n hx hb dX10_above_41 rfl (lv_at hl 2 rfl) ?_
      refine lv_aload_n hx hb dX10_above_42 rfl (lv_at hl 1 rfl) ?_
      refine va_get (D := D) (ci := 10) (v := .int ma) (C := RX10) (T := TX10) (N := 18) hx hb hts iX10 hown hK hP 0 rfl rfl 0 (by decide) lk7 (fun _ h9 => h9) rfl dX10_above_43 ?_
      obtain ⟨hz_4, h⟩ := h
      refine lv_idiv hx hb dX10_above_46 hz_4 ?_
      refine lv_imul hx hb dX10_above_47 ?_
      refine lv_iconst (v := 1) hx hb dX10_above_48 (by decide) ?_
      refine lv_isub hx hb dX10_above_49 ?_
      refine lv_imul hx hb dX10_above_50 ?_
      refine lv_iconst (v := 4) hx hb dX10_above_51 (by decide) ?_
      refine lv_iload_n hx hb dX10_above_52 rfl (lv_at hl 2 rfl) ?_
      refine lv_aload_n hx hb dX10_above_53 rfl (lv_at hl 1 rfl) ?_
      refine va_get (D := D) (ci := 10) (v := .int ma) (C := RX10) (T := TX10) (N := 18) hx hb hts iX10 hown hK hP 0 rfl rfl 0 (by decide) lk7 (fun _ h9 => h9) rfl dX10_above_54 ?_
      obtain ⟨hz_5, h⟩ := h
      refine lv_irem hx hb dX10_above_57 hz_5 ?_
      refine lv_imul hx hb dX10_above_58 ?_
      refine lv_iadd hx hb dX10_above_59 ?_
      refine lv_iload hx hb dX10_above_60 (lv_at hl 0 rfl) ?_
      refine lv_iadd hx hb dX10_above_62 ?_
      obtain ⟨hi_6, h⟩ := h
      refine va_iald hx hb hK hP 1 0 rfl rfl hi_6 dX10_above_63 ?_
      exact hret (jat mpic (((32 * ((4 * (v1 / ma)) - 1)) + (4 * (jrem v1 ma))) + t0_3)) () _ _ _ _ dX10_above_64 (vp_nar_int _) h hP hD hS
    refine lv_icmp_le (tgt := 31) hx hb dX10_above_24 (by decide) (fun c_7 => ?_) (fun c_7 => ?_)
    · have h := h.1 c_7
      refine lv_iload_n hx hb dX10_above_31 rfl (lv_at hl 3 rfl) ?_
      exact hJ_3 v2 H _ _ h hP hD hS (lv_sub hl [1, 2, 3, 0] rfl)
    · have h := h.2 c_7
      refine lv_iload_n hx hb dX10_above_27 rfl (lv_at hl 0 rfl) ?_
      refine lv_goto (tgt := 32) hx hb dX10_above_28 (by decide) ?_
      exact hJ_3 t0_2 H _ _ h hP hD hS (lv_sub hl [1, 2, 3, 0] rfl)
  refine lv_icmp_ge (tgt := 20) hx hb dX10_above_12 (by decide) (fun c_8 => ?_) (fun c_8 => ?_)
  · have h := h.1 c_8
    refine lv_iconst (v := 3) hx hb dX10_above_20 (by decide) ?_
    exact hJ_2 3 s.heap _ _ h hP hD hS (lv_sub hl [0, 1, 2] rfl)
  · have h := h.2 c_8
    refine lv_bipush (v := 7) hx hb dX10_above_15 (by decide) ?_
    refine lv_goto (tgt := 21) hx hb dX10_above_17 (by decide) ?_
    exact hJ_2 7 s.heap _ _ h hP hD hS (lv_sub hl [0, 1, 2] rfl)
