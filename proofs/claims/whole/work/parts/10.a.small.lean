def wp_X9_isWithin (v0 v1 v2 : Int32) (K : Int32 → Prop) : Prop := ((v0 < v1 → K 0) ∧ (¬ v0 < v1 → ((v2 < v0 → K 0) ∧ (¬ v2 < v0 → K 1))))
abbrev jw_X9_isWithin : List Cond := .code yX9_isWithin cX9_isWithin 3 (some .boolean) :: jmAll
abbrev rmX9_isWithin : Room := { frames := 0, cells := 0, slots := 0, locals := 0 }
set_option maxHeartbeats 4000000 in
set_option maxRecDepth 100000 in
theorem c_X9_isWithin (l : Launch) (D : va_G) (cI cB : ClassId) (tt : Nat × Nat × Nat) (sz : Nat) (v0 v1 v2 : Int32) {K : Int32 → Prop} (h : wp_X9_isWithin v0 v1 v2 K) : Met l yX9_isWithin jw_X9_isWithin rmX9_isWithin (va_Pc [.int v0, .int v1, .int v2] (jm_Pre D cI cB tt [] sz)) (va_Qi (fun (r : Int32) (u : Unit) => K r) (jm_Post D cI cB [] sz (fun (_ : Unit) => [])) (va_A [] sz)) 0 0 (va_A [] sz) := by
  refine jm_metI (by decide +kernel) rfl rfl (Nat.le_of_ble_eq_true rfl) ?_
  intro p e s m args below meth c A Q ls C0 hP hD hl hret
  obtain ⟨hx, hb, hml, hr, hown, hts, hlocks, hA, hK, hE⟩ := C0
  have hS : va_S A s.heap s.heap [] := va_S.rf
  have hl : lv_has ls 3 [(0, .int v0), (1, .int v1), (2, .int v2)] := hl
  unfold wp_X9_isWithin at h
  have hP : va_P D vwCl [] s.heap := hP
  have hD : va_D A [] := hD
  refine lv_iload_n hx hb dX9_isWithin_0 rfl (lv_at hl 0 rfl) ?_
  refine lv_iload_n hx hb dX9_isWithin_1 rfl (lv_at hl 1 rfl) ?_
  refine lv_icmp_lt (tgt := 14) hx hb dX9_isWithin_2 (by decide) (fun c_1 => ?_) (fun c_1 => ?_)
  · have h := h.1 c_1
    refine lv_iconst (v := 0) hx hb dX9_isWithin_14 (by decide) ?_
    exact hret 0 () _ _ _ _ dX9_isWithin_15 (by decide) h hP hD hS
  · have h := h.2 c_1
    refine lv_iload_n hx hb dX9_isWithin_5 rfl (lv_at hl 0 rfl) ?_
    refine lv_iload_n hx hb dX9_isWithin_6 rfl (lv_at hl 2 rfl) ?_
    refine lv_icmp_gt (tgt := 14) hx hb dX9_isWithin_7 (by decide) (fun c_2 => ?_) (fun c_2 => ?_)
    · have h := h.1 c_2
      refine lv_iconst (v := 0) hx hb dX9_isWithin_14 (by decide) ?_
      exact hret 0 () _ _ _ _ dX9_isWithin_15 (by decide) h hP hD hS
    · have h := h.2 c_2
      refine lv_iconst (v := 1) hx hb dX9_isWithin_10 (by decide) ?_
      refine lv_goto (tgt := 15) hx hb dX9_isWithin_11 (by decide) ?_
      exact hret 1 () _ _ _ _ dX9_isWithin_15 (by decide) h hP hD hS
def wp_X9_hasNeeded (v0 v1 v2 : Int32) (K : Int32 → Prop) : Prop := ((v0 = 0 → jz v1 ∧ K v1) ∧ (¬ v0 = 0 → (v0 = 1 → jz v2 ∧ K v2) ∧ (¬ v0 = 1 → (v0 = 2 → K 1) ∧ (¬ v0 = 2 → (v0 = 3 → jz v1 ∧ K v1) ∧ (¬ v0 = 3 → (v0 = 4 → ((v1 = 0 → K 0) ∧ (¬ v1 = 0 → ((v2 = 0 → K 0) ∧ (¬ v2 = 0 → K 1))))) ∧ (¬ v0 = 4 → (v0 = 5 → ((v1 = 0 → K 0) ∧ (¬ v1 = 0 → ((v2 = 0 → K 0) ∧ (¬ v2 = 0 → K 1))))) ∧ (¬ v0 = 5 → (v0 = 6 → ((v1 = 0 → K 0) ∧ (¬ v1 = 0 → ((v2 = 0 → K 0) ∧ (¬ v2 = 0 → K 1))))) ∧ (¬ v0 = 6 → (v0 = 7 → jz v1 ∧ K v1) ∧ (¬ v0 = 7 → (v0 = 8 → jz v2 ∧ K v2) ∧ (¬ v0 = 8 → ((v1 = 0 → K 0) ∧ (¬ v1 = 0 → ((v2 = 0 → K 0) ∧ (¬ v2 = 0 → K 1))))))))))))))
abbrev jw_X9_hasNeeded : List Cond := .code yX9_hasNeeded cX9_hasNeeded 3 (some .boolean) :: jmAll
abbrev rmX9_hasNeeded : Room := { frames := 0, cells := 0, slots := 0, locals := 0 }
set_option maxHeartbeats 4000000 in
set_option maxRecDepth 100000 in
theorem c_X9_hasNeeded (l : Launch) (D : va_G) (cI cB : ClassId) (tt : Nat × Nat × Nat) (sz : Nat) (v0 v1 v2 : Int32) {K : Int32 → Prop} (h : wp_X9_hasNeeded v0 v1 v2 K) : Met l yX9_hasNeeded jw_X9_hasNeeded rmX9_hasNeeded (va_Pc [.int v0, .int v1, .int v2] (jm_Pre D cI cB tt [] sz)) (va_Qi (fun (r : Int32) (u : Unit) => K r) (jm_Post D cI cB [] sz (fun (_ : Unit) => [])) (va_A [] sz)) 0 0 (va_A [] sz) := by
  refine jm_metI (by decide +kernel) rfl rfl (Nat.le_of_ble_eq_true rfl) ?_
  intro p e s m args below meth c A Q ls C0 hP hD hl hret
  obtain ⟨hx, hb, hml, hr, hown, hts, hlocks, hA, hK, hE⟩ := C0
  have hS : va_S A s.heap s.heap [] := va_S.rf
  have hl : lv_has ls 3 [(0, .int v0), (1, .int v1), (2, .int v2)] := hl
  unfold wp_X9_hasNeeded at h
  have hP : va_P D vwCl [] s.heap := hP
  have hD : va_D A [] := hD
  refine lv_iload_n hx hb dX9_hasNeeded_0 rfl (lv_at hl 0 rfl) ?_
  by_cases c_1 : v0 = 0
  · have h := h.1 c_1
    refine lv_tableIn (tgt := 52) hx hb dX9_hasNeeded_1 (by rw [c_1]; decide) (by rw [c_1]; decide) (off := 51) (by rw [c_1]; decide) (by decide) ?_
    refine lv_iload_n hx hb dX9_hasNeeded_52 rfl (lv_at hl 1 rfl) ?_
    obtain ⟨hz_2, h⟩ := h
    exact hret v1 () _ _ _ _ dX9_hasNeeded_53 hz_2.1 h hP hD hS
  have h := h.2 c_1
  by_cases c_3 : v0 = 1
  · have h := h.1 c_3
    refine lv_tableIn (tgt := 54) hx hb dX9_hasNeeded_1 (by rw [c_3]; decide) (by rw [c_3]; decide) (off := 53) (by rw [c_3]; decide) (by decide) ?_
    refine lv_iload_n hx hb dX9_hasNeeded_54 rfl (lv_at hl 2 rfl) ?_
    obtain ⟨hz_4, h⟩ := h
    exact hret v2 () _ _ _ _ dX9_hasNeeded_55 hz_4.1 h hP hD hS
  have h := h.2 c_3
  by_cases c_5 : v0 = 2
  · have h := h.1 c_5
    refine lv_tableIn (tgt := 56) hx hb dX9_hasNeeded_1 (by rw [c_5]; decide) (by rw [c_5]; decide) (off := 55) (by rw [c_5]; decide) (by decide) ?_
    refine lv_iconst (v := 1) hx hb dX9_hasNeeded_56 (by decide) ?_
    exact hret 1 () _ _ _ _ dX9_hasNeeded_57 (by decide) h hP hD hS
  have h := h.2 c_5
  by_cases c_6 : v0 = 3
  · have h := h.1 c_6
    refine lv_tableIn (tgt := 52) hx hb dX9_hasNeeded_1 (by rw [c_6]; decide) (by rw [c_6]; decide) (off := 51) (by rw [c_6]; decide) (by decide) ?_
    refine lv_iload_n hx hb dX9_hasNeeded_52 rfl (lv_at hl 1 rfl) ?_
    obtain ⟨hz_7, h⟩ := h
    exact hret v1 () _ _ _ _ dX9_hasNeeded_53 hz_7.1 h hP hD hS
  have h := h.2 c_6
  by_cases c_8 : v0 = 4
  · have h := h.1 c_8
    refine lv_tableIn (tgt := 58) hx hb dX9_hasNeeded_1 (by rw [c_8]; decide) (by rw [c_8]; decide) (off := 57) (by rw [c_8]; decide) (by decide) ?_
    refine lv_iload_n hx hb dX9_hasNeeded_58 rfl (lv_at hl 1 rfl) ?_
    refine lv_if_eq (tgt := 70) hx hb dX9_hasNeeded_59 (by decide) (fun c_9 => ?_) (fun c_9 => ?_)
    · have h := h.1 c_9
      refine lv_iconst (v := 0) hx hb dX9_hasNeeded_70 (by decide) ?_
      exact hret 0 () _ _ _ _ dX9_hasNeeded_71 (by decide) h hP hD hS
    · have h := h.2 c_9
      refine lv_iload_n hx hb dX9_hasNeeded_62 rfl (lv_at hl 2 rfl) ?_
      refine lv_if_eq (tgt := 70) hx hb dX9_hasNeeded_63 (by decide) (fun c_10 => ?_) (fun c_10 => ?_)
      · have h := h.1 c_10
        refine lv_iconst (v := 0) hx hb dX9_hasNeeded_70 (by decide) ?_
        exact hret 0 () _ _ _ _ dX9_hasNeeded_71 (by decide) h hP hD hS
      · have h := h.2 c_10
        refine lv_iconst (v := 1) hx hb dX9_hasNeeded_66 (by decide) ?_
        refine lv_goto (tgt := 71) hx hb dX9_hasNeeded_67 (by decide) ?_
        exact hret 1 () _ _ _ _ dX9_hasNeeded_71 (by decide) h hP hD hS
  have h := h.2 c_8
  by_cases c_11 : v0 = 5
  · have h := h.1 c_11
    refine lv_tableIn (tgt := 58) hx hb dX9_hasNeeded_1 (by rw [c_11]; decide) (by rw [c_11]; decide) (off := 57) (by rw [c_11]; decide) (by decide) ?_
    refine lv_iload_n hx hb dX9_hasNeeded_58 rfl (lv_at hl 1 rfl) ?_
    refine lv_if_eq (tgt := 70) hx hb dX9_hasNeeded_59 (by decide) (fun c_12 => ?_) (fun c_12 => ?_)
    · have h := h.1 c_12
      refine lv_iconst (v := 0) hx hb dX9_hasNeeded_70 (by decide) ?_
      exact hret 0 () _ _ _ _ dX9_hasNeeded_71 (by decide) h hP hD hS
    · have h := h.2 c_12
      refine lv_iload_n hx hb dX9_hasNeeded_62 rfl (lv_at hl 2 rfl) ?_
      refine lv_if_eq (tgt := 70) hx hb dX9_hasNeeded_63 (by decide) (fun c_13 => ?_) (fun c_13 => ?_)
      · have h := h.1 c_13
        refine lv_iconst (v := 0) hx hb dX9_hasNeeded_70 (by decide) ?_
        exact hret 0 () _ _ _ _ dX9_hasNeeded_71 (by decide) h hP hD hS
      · have h := h.2 c_13
        refine lv_iconst (v := 1) hx hb dX9_hasNeeded_66 (by decide) ?_
        refine lv_goto (tgt := 71) hx hb dX9_hasNeeded_67 (by decide) ?_
        exact hret 1 () _ _ _ _ dX9_hasNeeded_71 (by decide) h hP hD hS
  have h := h.2 c_11
  by_cases c_14 : v0 = 6
  · have h := h.1 c_14
    refine lv_tableIn (tgt := 58) hx hb dX9_hasNeeded_1 (by rw [c_14]; decide) (by rw [c_14]; decide) (off := 57) (by rw [c_14]; decide) (by decide) ?_
    refine lv_iload_n hx hb dX9_hasNeeded_58 rfl (lv_at hl 1 rfl) ?_
    refine lv_if_eq (tgt := 70) hx hb dX9_hasNeeded_59 (by decide) (fun c_15 => ?_) (fun c_15 => ?_)
    · have h := h.1 c_15
      refine lv_iconst (v := 0) hx hb dX9_hasNeeded_70 (by decide) ?_
      exact hret 0 () _ _ _ _ dX9_hasNeeded_71 (by decide) h hP hD hS
    · have h := h.2 c_15
      refine lv_iload_n hx hb dX9_hasNeeded_62 rfl (lv_at hl 2 rfl) ?_
      refine lv_if_eq (tgt := 70) hx hb dX9_hasNeeded_63 (by decide) (fun c_16 => ?_) (fun c_16 => ?_)
      · have h := h.1 c_16
        refine lv_iconst (v := 0) hx hb dX9_hasNeeded_70 (by decide) ?_
        exact hret 0 () _ _ _ _ dX9_hasNeeded_71 (by decide) h hP hD hS
      · have h := h.2 c_16
        refine lv_iconst (v := 1) hx hb dX9_hasNeeded_66 (by decide) ?_
        refine lv_goto (tgt := 71) hx hb dX9_hasNeeded_67 (by decide) ?_
        exact hret 1 () _ _ _ _ dX9_hasNeeded_71 (by decide) h hP hD hS
  have h := h.2 c_14
  by_cases c_17 : v0 = 7
  · have h := h.1 c_17
    refine lv_tableIn (tgt := 52) hx hb dX9_hasNeeded_1 (by rw [c_17]; decide) (by rw [c_17]; decide) (off := 51) (by rw [c_17]; decide) (by decide) ?_
    refine lv_iload_n hx hb dX9_hasNeeded_52 rfl (lv_at hl 1 rfl) ?_
    obtain ⟨hz_18, h⟩ := h
    exact hret v1 () _ _ _ _ dX9_hasNeeded_53 hz_18.1 h hP hD hS
  have h := h.2 c_17
  by_cases c_19 : v0 = 8
  · have h := h.1 c_19
    refine lv_tableIn (tgt := 54) hx hb dX9_hasNeeded_1 (by rw [c_19]; decide) (by rw [c_19]; decide) (off := 53) (by rw [c_19]; decide) (by decide) ?_
    refine lv_iload_n hx hb dX9_hasNeeded_54 rfl (lv_at hl 2 rfl) ?_
    obtain ⟨hz_20, h⟩ := h
    exact hret v2 () _ _ _ _ dX9_hasNeeded_55 hz_20.1 h hP hD hS
  have h := h.2 c_19
  have nc_1 : v0.toInt ≠ 0 := jm_sw c_1
  have nc_3 : v0.toInt ≠ 1 := jm_sw c_3
  have nc_5 : v0.toInt ≠ 2 := jm_sw c_5
  have nc_6 : v0.toInt ≠ 3 := jm_sw c_6
  have nc_8 : v0.toInt ≠ 4 := jm_sw c_8
  have nc_11 : v0.toInt ≠ 5 := jm_sw c_11
  have nc_14 : v0.toInt ≠ 6 := jm_sw c_14
  have nc_17 : v0.toInt ≠ 7 := jm_sw c_17
  have nc_19 : v0.toInt ≠ 8 := jm_sw c_19
  refine lv_tableOut (tgt := 58) hx hb dX9_hasNeeded_1 (by omega) (by decide) ?_
  refine lv_iload_n hx hb dX9_hasNeeded_58 rfl (lv_at hl 1 rfl) ?_
  refine lv_if_eq (tgt := 70) hx hb dX9_hasNeeded_59 (by decide) (fun c_21 => ?_) (fun c_21 => ?_)
  · have h := h.1 c_21
    refine lv_iconst (v := 0) hx hb dX9_hasNeeded_70 (by decide) ?_
    exact hret 0 () _ _ _ _ dX9_hasNeeded_71 (by decide) h hP hD hS
  · have h := h.2 c_21
    refine lv_iload_n hx hb dX9_hasNeeded_62 rfl (lv_at hl 2 rfl) ?_
    refine lv_if_eq (tgt := 70) hx hb dX9_hasNeeded_63 (by decide) (fun c_22 => ?_) (fun c_22 => ?_)
    · have h := h.1 c_22
      refine lv_iconst (v := 0) hx hb dX9_hasNeeded_70 (by decide) ?_
      exact hret 0 () _ _ _ _ dX9_hasNeeded_71 (by decide) h hP hD hS
    · have h := h.2 c_22
      refine lv_iconst (v := 1) hx hb dX9_hasNeeded_66 (by decide) ?_
      refine lv_goto (tgt := 71) hx hb dX9_hasNeeded_67 (by decide) ?_
      exact hret 1 () _ _ _ _ dX9_hasNeeded_71 (by decide) h hP hD hS
def wp_X9_byteOf (v0 v1 : Int32) (K : Int32 → Prop) : Prop := K ((jushr v0 (24 - (8 * v1))) &&& 255)
abbrev jw_X9_byteOf : List Cond := .code yX9_byteOf cX9_byteOf 2 (some .int) :: jmAll
abbrev rmX9_byteOf : Room := { frames := 0, cells := 0, slots := 0, locals := 0 }
set_option maxHeartbeats 4000000 in
set_option maxRecDepth 100000 in
theorem c_X9_byteOf (l : Launch) (D : va_G) (cI cB : ClassId) (tt : Nat × Nat × Nat) (sz : Nat) (v0 v1 : Int32) {K : Int32 → Prop} (h : wp_X9_byteOf v0 v1 K) : Met l yX9_byteOf jw_X9_byteOf rmX9_byteOf (va_Pc [.int v0, .int v1] (jm_Pre D cI cB tt [] sz)) (va_Qi (fun (r : Int32) (u : Unit) => K r) (jm_Post D cI cB [] sz (fun (_ : Unit) => [])) (va_A [] sz)) 0 0 (va_A [] sz) := by
  refine jm_metI (by decide +kernel) rfl rfl (Nat.le_of_ble_eq_true rfl) ?_
  intro p e s m args below meth c A Q ls C0 hP hD hl hret
  obtain ⟨hx, hb, hml, hr, hown, hts, hlocks, hA, hK, hE⟩ := C0
  have hS : va_S A s.heap s.heap [] := va_S.rf
  have hl : lv_has ls 2 [(0, .int v0), (1, .int v1)] := hl
  unfold wp_X9_byteOf at h
  have hP : va_P D vwCl [] s.heap := hP
  have hD : va_D A [] := hD
  refine lv_iload_n hx hb dX9_byteOf_0 rfl (lv_at hl 0 rfl) ?_
  refine lv_bipush (v := 24) hx hb dX9_byteOf_1 (by decide) ?_
  refine lv_bipush (v := 8) hx hb dX9_byteOf_3 (by decide) ?_
  refine lv_iload_n hx hb dX9_byteOf_5 rfl (lv_at hl 1 rfl) ?_
  refine lv_imul hx hb dX9_byteOf_6 ?_
  refine lv_isub hx hb dX9_byteOf_7 ?_
  refine lv_iushr (v := jushr v0 (24 - (8 * v1))) hx hb dX9_byteOf_8 rfl ?_
  refine lv_sipush (v := 255) hx hb dX9_byteOf_9 (by decide) ?_
  refine lv_iand hx hb dX9_byteOf_12 ?_
  exact hret ((jushr v0 (24 - (8 * v1))) &&& 255) () _ _ _ _ dX9_byteOf_13 (vp_nar_int _) h hP hD hS
def wp_X9_bring (v0 v1 v2 : Int32) (K : Int32 → Prop) : Prop := ((v1 ≤ v0 → ((v0 ≤ v2 → K v0) ∧ (¬ v0 ≤ v2 → K v2))) ∧ (¬ v1 ≤ v0 → K v1))
abbrev jw_X9_bring : List Cond := .code yX9_bring cX9_bring 3 (some .int) :: jmAll
abbrev rmX9_bring : Room := { frames := 0, cells := 0, slots := 0, locals := 0 }
set_option maxHeartbeats 4000000 in
set_option maxRecDepth 100000 in
theorem c_X9_bring (l : Launch) (D : va_G) (cI cB : ClassId) (tt : Nat × Nat × Nat) (sz : Nat) (v0 v1 v2 : Int32) {K : Int32 → Prop} (h : wp_X9_bring v0 v1 v2 K) : Met l yX9_bring jw_X9_bring rmX9_bring (va_Pc [.int v0, .int v1, .int v2] (jm_Pre D cI cB tt [] sz)) (va_Qi (fun (r : Int32) (u : Unit) => K r) (jm_Post D cI cB [] sz (fun (_ : Unit) => [])) (va_A [] sz)) 0 0 (va_A [] sz) := by
  refine jm_metI (by decide +kernel) rfl rfl (Nat.le_of_ble_eq_true rfl) ?_
  intro p e s m args below meth c A Q ls C0 hP hD hl hret
  obtain ⟨hx, hb, hml, hr, hown, hts, hlocks, hA, hK, hE⟩ := C0
  have hS : va_S A s.heap s.heap [] := va_S.rf
  have hl : lv_has ls 3 [(0, .int v0), (1, .int v1), (2, .int v2)] := hl
  unfold wp_X9_bring at h
  have hP : va_P D vwCl [] s.heap := hP
  have hD : va_D A [] := hD
  refine lv_iload_n hx hb dX9_bring_0 rfl (lv_at hl 0 rfl) ?_
  refine lv_iload_n hx hb dX9_bring_1 rfl (lv_at hl 1 rfl) ?_
  refine lv_icmp_ge (tgt := 9) hx hb dX9_bring_2 (by decide) (fun c_1 => ?_) (fun c_1 => ?_)
  · have h := h.1 c_1
    refine lv_iload_n hx hb dX9_bring_9 rfl (lv_at hl 0 rfl) ?_
    refine lv_iload_n hx hb dX9_bring_10 rfl (lv_at hl 2 rfl) ?_
    refine lv_icmp_le (tgt := 18) hx hb dX9_bring_11 (by decide) (fun c_2 => ?_) (fun c_2 => ?_)
    · have h := h.1 c_2
      refine lv_iload_n hx hb dX9_bring_18 rfl (lv_at hl 0 rfl) ?_
      exact hret v0 () _ _ _ _ dX9_bring_19 (vp_nar_int _) h hP hD hS
    · have h := h.2 c_2
      refine lv_iload_n hx hb dX9_bring_14 rfl (lv_at hl 2 rfl) ?_
      refine lv_goto (tgt := 19) hx hb dX9_bring_15 (by decide) ?_
      exact hret v2 () _ _ _ _ dX9_bring_19 (vp_nar_int _) h hP hD hS
  · have h := h.2 c_1
    refine lv_iload_n hx hb dX9_bring_5 rfl (lv_at hl 1 rfl) ?_
    refine lv_goto (tgt := 19) hx hb dX9_bring_6 (by decide) ?_
    exact hret v1 () _ _ _ _ dX9_bring_19 (vp_nar_int _) h hP hD hS
abbrev wd_st_stb (cI cB : ClassId) (a_st a_stb : Nat) (sc : Int32) (sb : (Nat → Int32)) : va_W := [(a_st, .inr (7, [.ref a_stb, .int sc])), (a_stb, .inl (cB, 8000, .inl sb))]
def wp_X7_get (sb : (Nat → Int32)) (v1 : Int32) (K : Int32 → Prop) : Prop := vp_in v1 8000 ∧ K ((jat sb v1) &&& 255)
abbrev jw_X7_get : List Cond := .code yX7_get cX7_get 2 (some .int) :: jmAll
abbrev rmX7_get : Room := { frames := 0, cells := 0, slots := 0, locals := 0 }
set_option maxHeartbeats 4000000 in
set_option maxRecDepth 100000 in
theorem c_X7_get (l : Launch) (D : va_G) (cI cB : ClassId) (tt : Nat × Nat × Nat) (a_st a_stb : Nat) (sz : Nat) (sc : Int32) (sb : (Nat → Int32)) (v1 : Int32) {K : Int32 → Prop} (h : wp_X7_get sb v1 K) : Met l yX7_get jw_X7_get rmX7_get (va_Pc [.ref a_st, .int v1] (jm_Pre D cI cB tt (wd_st_stb cI cB a_st a_stb sc sb) sz)) (va_Qi (fun (r : Int32) (u : Unit) => K r) (jm_Post D cI cB (wd_st_stb cI cB a_st a_stb sc sb) sz (fun (u : Unit) => wd_st_stb cI cB a_st a_stb sc sb)) (va_A (wd_st_stb cI cB a_st a_stb sc sb) sz)) 0 0 (va_A (wd_st_stb cI cB a_st a_stb sc sb) sz) := by
  refine jm_metI (by decide +kernel) rfl rfl (Nat.le_of_ble_eq_true rfl) ?_
  intro p e s m args below meth c A Q ls C0 hP hD hl hret
  obtain ⟨hx, hb, hml, hr, hown, hts, hlocks, hA, hK, hE⟩ := C0
  have hS : va_S A s.heap s.heap [] := va_S.rf
  have hl : lv_has ls 2 [(0, .ref a_st), (1, .int v1)] := hl
  unfold wp_X7_get at h
  have hP : va_P D vwCl [(a_st, .inr (7, [.ref a_stb, .int sc])), (a_stb, .inl (cB, 8000, .inl sb))] s.heap := hP
  have hD : va_D A [(a_st, .inr (7, [.ref a_stb, .int sc])), (a_stb, .inl (cB, 8000, .inl sb))] := hD
  have iX7 : ∀ w ∈ wsX70, w ∈ jw_X7_get := fun w h => List.mem_cons_of_mem _ (jm_iX7 w h)
  have lk9 := hts (.fieldLink RX7 9 "IntraMill$Store" "bytes" "[B") (List.mem_cons_of_mem _ mw_158)
  refine lv_aload_n hx hb dX7_get_0 rfl (lv_at hl 0 rfl) ?_
  refine va_get (D := D) (ci := 7) (v := .ref a_stb) (C := RX7) (T := TX7) (N := 2) hx hb hts iX7 hown hK hP 0 rfl rfl 0 (by decide) lk9 (fun _ h9 => h9) rfl dX7_get_1 ?_
  refine lv_iload_n hx hb dX7_get_4 rfl (lv_at hl 1 rfl) ?_
  obtain ⟨hi_1, h⟩ := h
  refine va_bald hx hb hK hP 1 1 rfl rfl hi_1 dX7_get_5 ?_
  refine lv_sipush (v := 255) hx hb dX7_get_6 (by decide) ?_
  refine lv_iand hx hb dX7_get_9 ?_
  exact hret ((jat sb v1) &&& 255) () _ _ _ _ dX7_get_10 (vp_nar_int _) h hP hD hS
def wp_X7_set (sb : (Nat → Int32)) (v1 v2 : Int32) (K : (Nat → Int32) → Prop) : Prop := vp_in v1 8000 ∧ K (jupb sb v1 v2.toInt8.toInt32)
abbrev jw_X7_set : List Cond := .code yX7_set cX7_set 3 none :: jmAll
abbrev rmX7_set : Room := { frames := 0, cells := 0, slots := 0, locals := 0 }
set_option maxHeartbeats 4000000 in
set_option maxRecDepth 100000 in
theorem c_X7_set (l : Launch) (D : va_G) (cI cB : ClassId) (tt : Nat × Nat × Nat) (a_st a_stb : Nat) (sz : Nat) (sc : Int32) (sb : (Nat → Int32)) (v1 v2 : Int32) {K : (Nat → Int32) → Prop} (h : wp_X7_set sb v1 v2 K) : Met l yX7_set jw_X7_set rmX7_set (va_Pc [.ref a_st, .int v1, .int v2] (jm_Pre D cI cB tt (wd_st_stb cI cB a_st a_stb sc sb) sz)) (va_Qv (fun (u : (Nat → Int32)) => K u) (jm_Post D cI cB (wd_st_stb cI cB a_st a_stb sc sb) sz (fun (u : (Nat → Int32)) => wd_st_stb cI cB a_st a_stb sc u)) (va_A (wd_st_stb cI cB a_st a_stb sc sb) sz)) 0 0 (va_A (wd_st_stb cI cB a_st a_stb sc sb) sz) := by
  refine jm_metV (by decide +kernel) rfl rfl (Nat.le_of_ble_eq_true rfl) ?_
  intro p e s m args below meth c A Q ls C0 hP hD hl hret
  obtain ⟨hx, hb, hml, hr, hown, hts, hlocks, hA, hK, hE⟩ := C0
  have hS : va_S A s.heap s.heap [] := va_S.rf
  have hl : lv_has ls 3 [(0, .ref a_st), (1, .int v1), (2, .int v2)] := hl
  unfold wp_X7_set at h
  have hP : va_P D vwCl [(a_st, .inr (7, [.ref a_stb, .int sc])), (a_stb, .inl (cB, 8000, .inl sb))] s.heap := hP
  have hD : va_D A [(a_st, .inr (7, [.ref a_stb, .int sc])), (a_stb, .inl (cB, 8000, .inl sb))] := hD
  have iX7 : ∀ w ∈ wsX70, w ∈ jw_X7_set := fun w h => List.mem_cons_of_mem _ (jm_iX7 w h)
  have lk9 := hts (.fieldLink RX7 9 "IntraMill$Store" "bytes" "[B") (List.mem_cons_of_mem _ mw_158)
  refine lv_aload_n hx hb dX7_set_0 rfl (lv_at hl 0 rfl) ?_
  refine va_get (D := D) (ci := 7) (v := .ref a_stb) (C := RX7) (T := TX7) (N := 2) hx hb hts iX7 hown hK hP 0 rfl rfl 0 (by decide) lk9 (fun _ h9 => h9) rfl dX7_set_1 ?_
  refine lv_iload_n hx hb dX7_set_4 rfl (lv_at hl 1 rfl) ?_
  refine lv_iload_n hx hb dX7_set_5 rfl (lv_at hl 2 rfl) ?_
  refine lv_i2b (v := v2.toInt8.toInt32) hx hb dX7_set_6 rfl ?_
  obtain ⟨hi_1, h⟩ := h
  refine va_bast hx hb hK hP hD hS 1 1 rfl rfl hi_1 dX7_set_7 (fun H_2 locs hP hD hS => ?_)
  have hP : va_P D vwCl [(a_st, .inr (7, [.ref a_stb, .int sc])), (a_stb, .inl (cB, 8000, .inl (jupb sb v1 v2.toInt8.toInt32)))] H_2 := hP
  have hD : va_D A [(a_st, .inr (7, [.ref a_stb, .int sc])), (a_stb, .inl (cB, 8000, .inl (jupb sb v1 v2.toInt8.toInt32)))] := hD
  exact hret (jupb sb v1 v2.toInt8.toInt32) _ _ _ _ dX7_set_8 h hP hD hS
def wp_X7_add (sc : Int32) (sb : (Nat → Int32)) (v1 : Int32) (K : Int32 → (Nat → Int32) → Prop) : Prop := ((8000 ≤ sc → K sc sb) ∧ (¬ 8000 ≤ sc → wp_X7_set sb sc v1 (fun (sb_2 : (Nat → Int32)) => K (sc + 1) sb_2)))
abbrev jw_X7_add : List Cond := .code yX7_add cX7_add 2 none :: jmAll
abbrev rmX7_add : Room := { frames := 1, cells := 0, slots := 0, locals := 22 }
set_option maxHeartbeats 4000000 in
set_option maxRecDepth 100000 in
theorem c_X7_add (l : Launch) (D : va_G) (cI cB : ClassId) (tt : Nat × Nat × Nat) (a_st a_stb : Nat) (sz : Nat) (sc : Int32) (sb : (Nat → Int32)) (v1 : Int32) {K : Int32 → (Nat → Int32) → Prop} (h : wp_X7_add sc sb v1 K) : Met l yX7_add jw_X7_add rmX7_add (va_Pc [.ref a_st, .int v1] (jm_Pre D cI cB tt (wd_st_stb cI cB a_st a_stb sc sb) sz)) (va_Qv (fun (u : Int32 × (Nat → Int32)) => pr2 K u) (jm_Post D cI cB (wd_st_stb cI cB a_st a_stb sc sb) sz (fun (u : Int32 × (Nat → Int32)) => wd_st_stb cI cB a_st a_stb u.1 u.2)) (va_A (wd_st_stb cI cB a_st a_stb sc sb) sz)) 0 0 (va_A (wd_st_stb cI cB a_st a_stb sc sb) sz) := by
  refine jm_metV (by decide +kernel) rfl rfl (Nat.le_of_ble_eq_true rfl) ?_
  intro p e s m args below meth c A Q ls C0 hP hD hl hret
  obtain ⟨hx, hb, hml, hr, hown, hts, hlocks, hA, hK, hE⟩ := C0
  have hS : va_S A s.heap s.heap [] := va_S.rf
  have hl : lv_has ls 2 [(0, .ref a_st), (1, .int v1)] := hl
  unfold wp_X7_add at h
  have hP : va_P D vwCl [(a_st, .inr (7, [.ref a_stb, .int sc])), (a_stb, .inl (cB, 8000, .inl sb))] s.heap := hP
  have hD : va_D A [(a_st, .inr (7, [.ref a_stb, .int sc])), (a_stb, .inl (cB, 8000, .inl sb))] := hD
  have iX7 : ∀ w ∈ wsX70, w ∈ jw_X7_add := fun w h => List.mem_cons_of_mem _ (jm_iX7 w h)
  have lk15 := hts (.fieldLink RX7 15 "IntraMill$Store" "count" "I") (List.mem_cons_of_mem _ mw_160)
  refine lv_aload_n hx hb dX7_add_0 rfl (lv_at hl 0 rfl) ?_
  refine va_get (D := D) (ci := 7) (v := .int sc) (C := RX7) (T := TX7) (N := 2) hx hb hts iX7 hown hK hP 0 rfl rfl 1 (by decide) lk15 (fun _ h9 => h9) rfl dX7_add_1 ?_
  refine lv_sipush (v := 8000) hx hb dX7_add_4 (by decide) ?_
  refine lv_icmp_ge (tgt := 29) hx hb dX7_add_7 (by decide) (fun c_1 => ?_) (fun c_1 => ?_)
  · have h := h.1 c_1
    exact hret (sc, sb) _ _ _ _ dX7_add_29 h hP hD hS
  · have h := h.2 c_1
    refine lv_aload_n hx hb dX7_add_10 rfl (lv_at hl 0 rfl) ?_
    refine lv_aload_n hx hb dX7_add_11 rfl (lv_at hl 0 rfl) ?_
    refine va_get (D := D) (ci := 7) (v := .int sc) (C := RX7) (T := TX7) (N := 2) hx hb hts iX7 hown hK hP 0 rfl rfl 1 (by decide) lk15 (fun _ h9 => h9) rfl dX7_add_12 ?_
    refine lv_iload_n hx hb dX7_add_15 rfl (lv_at hl 1 rfl) ?_
    have hPc := hP.sub (ws' := [(a_st, .inr (7, [.ref a_stb, .int sc])), (a_stb, .inl (cB, 8000, .inl sb))]) [0, 1] rfl
    have hDc := hD.sub (ws' := [(a_st, .inr (7, [.ref a_stb, .int sc])), (a_stb, .inl (cB, 8000, .inl sb))]) [0, 1] (by decide) rfl
    have hFc := va_free (wc := [(a_st, .inr (7, [.ref a_stb, .int sc])), (a_stb, .inl (cB, 8000, .inl sb))]) hD hS hA [0, 1] rfl
    refine jm_callv (wr := []) (va_runV (As := [.int sc, .int v1]) (rest := []) ⟨hx, hb, hml, hown, hts⟩ (c_X7_set l D cI cB tt a_st a_stb s.heap.size sc sb sc v1 h) (cwV 2 hts (jm_gV mw_650 mw_651 mw_652 mw_60 mw_653) rfl rfl rfl (by decide +kernel) ⟨Nat.le_of_ble_eq_true rfl, Nat.le_of_ble_eq_true rfl⟩) ⟨jm_blind, va_recv hK hPc (ci := 7) (q0 := 0) rfl rfl, jm_pre hK hE hS hPc hDc hFc _⟩ rfl rfl hl.1 rfl (lv_room (Nat.le_of_ble_eq_true rfl)) dX7_add_16 ⟨Nat.zero_le _, Nat.zero_le _⟩) hS hP hD [0, 1] [] rfl rfl (by decide) (by decide) hFc (fun u_2 H_2 locs hw hP hD hS => ?_)
    obtain ⟨sb_2, rfl⟩ : ∃ z, z = u_2 := ⟨_, rfl⟩
    have h := hw
    have hP : va_P D vwCl [(a_st, .inr (7, [.ref a_stb, .int sc])), (a_stb, .inl (cB, 8000, .inl sb_2))] H_2 := hP.sub [0, 1] rfl
    have hD : va_D A [(a_st, .inr (7, [.ref a_stb, .int sc])), (a_stb, .inl (cB, 8000, .inl sb_2))] := hD.sub [0, 1] (by decide) rfl
    refine lv_aload_n hx hb dX7_add_19 rfl (lv_at hl 0 rfl) ?_
    refine lv_dup hx hb dX7_add_20 rfl ?_
    refine va_get (D := D) (ci := 7) (v := .int sc) (C := RX7) (T := TX7) (N := 2) hx hb hts iX7 hown hK hP 0 rfl rfl 1 (by decide) lk15 (fun _ h9 => h9) rfl dX7_add_21 ?_
    refine lv_iconst (v := 1) hx hb dX7_add_24 (by decide) ?_
    refine lv_iadd hx hb dX7_add_25 ?_
    refine va_put (D := D) (ci := 7) (v := .int (sc + 1)) (ty := .int) (C := RX7) (T := TX7) (N := 2) hx hb hts iX7 tyX7 tyX7_ok nmX7 hown hK hP hD hS 0 rfl rfl 1 (by decide) lk15 (fun _ h9 => h9) rfl (by decide +kernel) rfl rfl (Nat.le_of_ble_eq_true rfl) dX7_add_26 (fun H_3 locs hP hD hS => ?_)
    have hP : va_P D vwCl [(a_st, .inr (7, [.ref a_stb, .int (sc + 1)])), (a_stb, .inl (cB, 8000, .inl sb_2))] H_3 := hP
    have hD : va_D A [(a_st, .inr (7, [.ref a_stb, .int (sc + 1)])), (a_stb, .inl (cB, 8000, .inl sb_2))] := hD
    exact hret (sc + 1, sb_2) _ _ _ _ dX7_add_29 h hP hD hS
def wp_X7_bitAt (sb : (Nat → Int32)) (v1 : Int32) (K : Int32 → Prop) : Prop := vp_in (v1 / 8) 8000 ∧ K (((jat sb (v1 / 8)) >>> ((7 - (jrem v1 8)) &&& 31)) &&& 1)
abbrev jw_X7_bitAt : List Cond := .code yX7_bitAt cX7_bitAt 2 (some .int) :: jmAll
abbrev rmX7_bitAt : Room := { frames := 0, cells := 0, slots := 0, locals := 0 }
set_option maxHeartbeats 4000000 in
set_option maxRecDepth 100000 in
theorem c_X7_bitAt (l : Launch) (D : va_G) (cI cB : ClassId) (tt : Nat × Nat × Nat) (a_st a_stb : Nat) (sz : Nat) (sc : Int32) (sb : (Nat → Int32)) (v1 : Int32) {K : Int32 → Prop} (h : wp_X7_bitAt sb v1 K) : Met l yX7_bitAt jw_X7_bitAt rmX7_bitAt (va_Pc [.ref a_st, .int v1] (jm_Pre D cI cB tt (wd_st_stb cI cB a_st a_stb sc sb) sz)) (va_Qi (fun (r : Int32) (u : Unit) => K r) (jm_Post D cI cB (wd_st_stb cI cB a_st a_stb sc sb) sz (fun (u : Unit) => wd_st_stb cI cB a_st a_stb sc sb)) (va_A (wd_st_stb cI cB a_st a_stb sc sb) sz)) 0 0 (va_A (wd_st_stb cI cB a_st a_stb sc sb) sz) := by
  refine jm_metI (by decide +kernel) rfl rfl (Nat.le_of_ble_eq_true rfl) ?_
  intro p e s m args below meth c A Q ls C0 hP hD hl hret
  obtain ⟨hx, hb, hml, hr, hown, hts, hlocks, hA, hK, hE⟩ := C0
  have hS : va_S A s.heap s.heap [] := va_S.rf
  have hl : lv_has ls 2 [(0, .ref a_st), (1, .int v1)] := hl
  unfold wp_X7_bitAt at h
  have hP : va_P D vwCl [(a_st, .inr (7, [.ref a_stb, .int sc])), (a_stb, .inl (cB, 8000, .inl sb))] s.heap := hP
  have hD : va_D A [(a_st, .inr (7, [.ref a_stb, .int sc])), (a_stb, .inl (cB, 8000, .inl sb))] := hD
  have iX7 : ∀ w ∈ wsX70, w ∈ jw_X7_bitAt := fun w h => List.mem_cons_of_mem _ (jm_iX7 w h)
  have lk9 := hts (.fieldLink RX7 9 "IntraMill$Store" "bytes" "[B") (List.mem_cons_of_mem _ mw_158)
  refine lv_aload_n hx hb dX7_bitAt_0 rfl (lv_at hl 0 rfl) ?_
  refine va_get (D := D) (ci := 7) (v := .ref a_stb) (C := RX7) (T := TX7) (N := 2) hx hb hts iX7 hown hK hP 0 rfl rfl 0 (by decide) lk9 (fun _ h9 => h9) rfl dX7_bitAt_1 ?_
  refine lv_iload_n hx hb dX7_bitAt_4 rfl (lv_at hl 1 rfl) ?_
  refine lv_bipush (v := 8) hx hb dX7_bitAt_5 (by decide) ?_
  refine lv_idiv hx hb dX7_bitAt_7 (by decide) ?_
  obtain ⟨hi_1, h⟩ := h
  refine va_bald hx hb hK hP 1 1 rfl rfl hi_1 dX7_bitAt_8 ?_
  refine lv_bipush (v := 7) hx hb dX7_bitAt_9 (by decide) ?_
  refine lv_iload_n hx hb dX7_bitAt_11 rfl (lv_at hl 1 rfl) ?_
  refine lv_bipush (v := 8) hx hb dX7_bitAt_12 (by decide) ?_
  refine lv_irem hx hb dX7_bitAt_14 (by decide) ?_
  refine lv_isub hx hb dX7_bitAt_15 ?_
  refine lv_ishr hx hb dX7_bitAt_16 ?_
  refine lv_iconst (v := 1) hx hb dX7_bitAt_17 (by decide) ?_
  refine lv_iand hx hb dX7_bitAt_18 ?_
  exact hret (((jat sb (v1 / 8)) >>> ((7 - (jrem v1 8)) &&& 31)) &&& 1) () _ _ _ _ dX7_bitAt_19 (vp_nar_int _) h hP hD hS
abbrev wd_pi_pix (cI cB : ClassId) (a_pi a_pix : Nat) (pa : Int32) (pd : Int32) (px : (Nat → Int32)) : va_W := [(a_pi, .inr (3, [.ref a_pix, .int pa, .int pd])), (a_pix, .inl (cI, 1024, .inl px))]
def wl_X3_clear_12 (K : Int32 → Int32 → (Nat → Int32) → Prop) (X : Int32 → (Nat → Int32) → Prop) : Nat → Int32 → (Nat → Int32) → Prop
  | 0, _, _ => False
  | n + 1, v3, px => ((1024 ≤ v3 → X v3 px) ∧ (¬ 1024 ≤ v3 → vp_in v3 1024 ∧ ∀ x3_6 : Int32, x3_6 = v3 + 1 → wl_X3_clear_12  K X n x3_6 (jup px v3 0)))
def wp_X3_clear (pa : Int32) (pd : Int32) (px : (Nat → Int32)) (v1 v2 : Int32) (K : Int32 → Int32 → (Nat → Int32) → Prop) : Prop := ∃ k : Nat, wl_X3_clear_12  K (fun (v3_7 : Int32) (px_7 : (Nat → Int32)) => K v1 v2 px_7) k 0 px
abbrev jw_X3_clear : List Cond := .code yX3_clear cX3_clear 4 none :: jmAll
abbrev rmX3_clear : Room := { frames := 0, cells := 0, slots := 0, locals := 0 }
set_option maxHeartbeats 4000000 in
set_option maxRecDepth 100000 in
theorem c_X3_clear (l : Launch) (D : va_G) (cI cB : ClassId) (tt : Nat × Nat × Nat) (a_pi a_pix : Nat) (sz : Nat) (pa : Int32) (pd : Int32) (px : (Nat → Int32)) (v1 v2 : Int32) {K : Int32 → Int32 → (Nat → Int32) → Prop} (h : wp_X3_clear pa pd px v1 v2 K) : Met l yX3_clear jw_X3_clear rmX3_clear (va_Pc [.ref a_pi, .int v1, .int v2] (jm_Pre D cI cB tt (wd_pi_pix cI cB a_pi a_pix pa pd px) sz)) (va_Qv (fun (u : Int32 × Int32 × (Nat → Int32)) => pr3 K u) (jm_Post D cI cB (wd_pi_pix cI cB a_pi a_pix pa pd px) sz (fun (u : Int32 × Int32 × (Nat → Int32)) => wd_pi_pix cI cB a_pi a_pix u.1 u.2.1 u.2.2)) (va_A (wd_pi_pix cI cB a_pi a_pix pa pd px) sz)) 0 0 (va_A (wd_pi_pix cI cB a_pi a_pix pa pd px) sz) := by
  refine jm_metV (by decide +kernel) rfl rfl (Nat.le_of_ble_eq_true rfl) ?_
  intro p e s m args below meth c A Q ls C0 hP hD hl hret
  obtain ⟨hx, hb, hml, hr, hown, hts, hlocks, hA, hK, hE⟩ := C0
  have hS : va_S A s.heap s.heap [] := va_S.rf
  have hl : lv_has ls 4 [(0, .ref a_pi), (1, .int v1), (2, .int v2)] := hl
  unfold wp_X3_clear at h
  have hP : va_P D vwCl [(a_pi, .inr (3, [.ref a_pix, .int pa, .int pd])), (a_pix, .inl (cI, 1024, .inl px))] s.heap := hP
  have hD : va_D A [(a_pi, .inr (3, [.ref a_pix, .int pa, .int pd])), (a_pix, .inl (cI, 1024, .inl px))] := hD
  have iX3 : ∀ w ∈ wsX30, w ∈ jw_X3_clear := fun w h => List.mem_cons_of_mem _ (jm_iX3 w h)
  have lk11 := hts (.fieldLink RX3 11 "IntraMill$Picture" "pixels" "[I") (List.mem_cons_of_mem _ mw_86)
  have lk15 := hts (.fieldLink RX3 15 "IntraMill$Picture" "across" "I") (List.mem_cons_of_mem _ mw_87)
  have lk19 := hts (.fieldLink RX3 19 "IntraMill$Picture" "down" "I") (List.mem_cons_of_mem _ mw_90)
  refine lv_aload_n hx hb dX3_clear_0 rfl (lv_at hl 0 rfl) ?_
  refine lv_iload_n hx hb dX3_clear_1 rfl (lv_at hl 1 rfl) ?_
  refine va_put (D := D) (ci := 3) (v := .int v1) (ty := .int) (C := RX3) (T := TX3) (N := 3) hx hb hts iX3 tyX3 tyX3_ok nmX3 hown hK hP hD hS 0 rfl rfl 1 (by decide) lk15 (fun _ h9 => h9) rfl (by decide +kernel) rfl rfl (Nat.le_of_ble_eq_true rfl) dX3_clear_2 (fun H_1 locs hP hD hS => ?_)
  have hP : va_P D vwCl [(a_pi, .inr (3, [.ref a_pix, .int v1, .int pd])), (a_pix, .inl (cI, 1024, .inl px))] H_1 := hP
  have hD : va_D A [(a_pi, .inr (3, [.ref a_pix, .int v1, .int pd])), (a_pix, .inl (cI, 1024, .inl px))] := hD
  refine lv_aload_n hx hb dX3_clear_5 rfl (lv_at hl 0 rfl) ?_
  refine lv_iload_n hx hb dX3_clear_6 rfl (lv_at hl 2 rfl) ?_
  refine va_put (D := D) (ci := 3) (v := .int v2) (ty := .int) (C := RX3) (T := TX3) (N := 3) hx hb hts iX3 tyX3 tyX3_ok nmX3 hown hK hP hD hS 0 rfl rfl 2 (by decide) lk19 (fun _ h9 => h9) rfl (by decide +kernel) rfl rfl (Nat.le_of_ble_eq_true rfl) dX3_clear_7 (fun H_2 locs hP hD hS => ?_)
  have hP : va_P D vwCl [(a_pi, .inr (3, [.ref a_pix, .int v1, .int v2])), (a_pix, .inl (cI, 1024, .inl px))] H_2 := hP
  have hD : va_D A [(a_pi, .inr (3, [.ref a_pix, .int v1, .int v2])), (a_pix, .inl (cI, 1024, .inl px))] := hD
  refine lv_iconst (v := 0) hx hb dX3_clear_10 (by decide) ?_
  refine lv_istore_n (lv' := [(3, .int 0), (0, .ref a_pi), (1, .int v1), (2, .int v2)]) hx hb dX3_clear_11 rfl hl (by decide) rfl (fun ls hl => ?_)
  obtain ⟨n_7, h⟩ := h
  have hL_7 : ∀ (v1 : Int32) (v2 : Int32) (pa : Int32) (pd : Int32) (X : Int32 → (Nat → Int32) → Prop), (∀ (v3 : Int32) (px : (Nat → Int32)), ∀ (H : Heap) (locs : List Loc) (ls : Array Slot), X v3 px → va_P D vwCl [(a_pi, .inr (3, [.ref a_pix, .int pa, .int pd])), (a_pix, .inl (cI, 1024, .inl px))] H → va_D A [(a_pi, .inr (3, [.ref a_pix, .int pa, .int pd])), (a_pix, .inl (cI, 1024, .inl px))] → va_S A s.heap H locs → lv_has ls 4 [(0, .ref a_pi), (1, .int v1), (2, .int v2), (3, .int v3)] → W p l e rmX3_clear s m args below meth c H locs 0 0 Q (F0 m 34 ls [])) → ∀ (n : Nat) (v3 : Int32) (px : (Nat → Int32)), ∀ (H : Heap) (locs : List Loc) (ls : Array Slot), wl_X3_clear_12  K X n v3 px → va_P D vwCl [(a_pi, .inr (3, [.ref a_pix, .int pa, .int pd])), (a_pix, .inl (cI, 1024, .inl px))] H → va_D A [(a_pi, .inr (3, [.ref a_pix, .int pa, .int pd])), (a_pix, .inl (cI, 1024, .inl px))] → va_S A s.heap H locs → lv_has ls 4 [(0, .ref a_pi), (1, .int v1), (2, .int v2), (3, .int v3)] → W p l e rmX3_clear s m args below meth c H locs 0 0 Q (F0 m 12 ls []) := by
    intro v1 v2 pa pd X hX n
    induction n with
    | zero => intro v3 px H locs ls h; rw [wl_X3_clear_12] at h; exact h.elim
    | succ n ih =>
      intro v3 px H locs ls h hP hD hS hl
      rw [wl_X3_clear_12] at h
      refine lv_iload_n hx hb dX3_clear_12 rfl (lv_at hl 3 rfl) ?_
      refine lv_aload_n hx hb dX3_clear_13 rfl (lv_at hl 0 rfl) ?_
      refine va_get (D := D) (ci := 3) (v := .ref a_pix) (C := RX3) (T := TX3) (N := 3) hx hb hts iX3 hown hK hP 0 rfl rfl 0 (by decide) lk11 (fun _ h9 => h9) rfl dX3_clear_14 ?_
      refine va_alen hx hb hK hP 1 0 rfl rfl (v := 1024) rfl dX3_clear_17 ?_
      refine lv_icmp_ge (tgt := 34) hx hb dX3_clear_18 (by decide) (fun c_3 => ?_) (fun c_3 => ?_)
      · have h := h.1 c_3
        exact hX v3 px H _ _ h hP hD hS (lv_sub hl [0, 1, 2, 3] rfl)
      · have h := h.2 c_3
        refine lv_aload_n hx hb dX3_clear_21 rfl (lv_at hl 0 rfl) ?_
        refine va_get (D := D) (ci := 3) (v := .ref a_pix) (C := RX3) (T := TX3) (N := 3) hx hb hts iX3 hown hK hP 0 rfl rfl 0 (by decide) lk11 (fun _ h9 => h9) rfl dX3_clear_22 ?_
        refine lv_iload_n hx hb dX3_clear_25 rfl (lv_at hl 3 rfl) ?_
        refine lv_iconst (v := 0) hx hb dX3_clear_26 (by decide) ?_
        obtain ⟨hi_4, h⟩ := h
        refine va_iast hx hb hK hP hD hS 1 0 rfl rfl hi_4 dX3_clear_27 (fun H_5 locs hP hD hS => ?_)
        have hP : va_P D vwCl [(a_pi, .inr (3, [.ref a_pix, .int pa, .int pd])), (a_pix, .inl (cI, 1024, .inl (jup px v3 0)))] H_5 := hP
        have hD : va_D A [(a_pi, .inr (3, [.ref a_pix, .int pa, .int pd])), (a_pix, .inl (cI, 1024, .inl (jup px v3 0)))] := hD
        obtain ⟨x3_6, ex3_6⟩ : ∃ y : Int32, y = v3 + 1 := ⟨_, rfl⟩
        have h := h x3_6 ex3_6
        refine lv_iinc (v := x3_6) (lv' := [(3, .int x3_6), (0, .ref a_pi), (1, .int v1), (2, .int v2)]) hx hb dX3_clear_28 hl (k := 3) rfl (by rw [ex3_6]; rfl) (by decide) rfl (fun ls hl => ?_)
        refine lv_goto (tgt := 12) hx hb dX3_clear_31 (by decide) ?_
        exact ih x3_6 (jup px v3 0) H_5 _ _ h hP hD hS (lv_sub hl [1, 2, 3, 0] rfl)
  refine hL_7 v1 v2 v1 v2 _ ?_ n_7 0 px H_2 _ _ h hP hD hS (lv_sub hl [1, 2, 3, 0] rfl)
  intro v3_7 px_7 H locs ls h hP hD hS hl
  exact hret (v1, v2, px_7) _ _ _ _ dX3_clear_34 h hP hD hS
def wp_X3_blocks (pa : Int32) (pd : Int32) (K : Int32 → Prop) : Prop := K (pa * pd)
abbrev jw_X3_blocks : List Cond := .code yX3_blocks cX3_blocks 1 (some .int) :: jmAll
abbrev rmX3_blocks : Room := { frames := 0, cells := 0, slots := 0, locals := 0 }
set_option maxHeartbeats 4000000 in
set_option maxRecDepth 100000 in
theorem c_X3_blocks (l : Launch) (D : va_G) (cI cB : ClassId) (tt : Nat × Nat × Nat) (a_pi a_pix : Nat) (sz : Nat) (pa : Int32) (pd : Int32) (px : (Nat → Int32)) {K : Int32 → Prop} (h : wp_X3_blocks pa pd K) : Met l yX3_blocks jw_X3_blocks rmX3_blocks (va_Pc [.ref a_pi] (jm_Pre D cI cB tt (wd_pi_pix cI cB a_pi a_pix pa pd px) sz)) (va_Qi (fun (r : Int32) (u : Unit) => K r) (jm_Post D cI cB (wd_pi_pix cI cB a_pi a_pix pa pd px) sz (fun (u : Unit) => wd_pi_pix cI cB a_pi a_pix pa pd px)) (va_A (wd_pi_pix cI cB a_pi a_pix pa pd px) sz)) 0 0 (va_A (wd_pi_pix cI cB a_pi a_pix pa pd px) sz) := by
  refine jm_metI (by decide +kernel) rfl rfl (Nat.le_of_ble_eq_true rfl) ?_
  intro p e s m args below meth c A Q ls C0 hP hD hl hret
  obtain ⟨hx, hb, hml, hr, hown, hts, hlocks, hA, hK, hE⟩ := C0
  have hS : va_S A s.heap s.heap [] := va_S.rf
  have hl : lv_has ls 1 [(0, .ref a_pi)] := hl
  unfold wp_X3_blocks at h
  have hP : va_P D vwCl [(a_pi, .inr (3, [.ref a_pix, .int pa, .int pd])), (a_pix, .inl (cI, 1024, .inl px))] s.heap := hP
  have hD : va_D A [(a_pi, .inr (3, [.ref a_pix, .int pa, .int pd])), (a_pix, .inl (cI, 1024, .inl px))] := hD
  have iX3 : ∀ w ∈ wsX30, w ∈ jw_X3_blocks := fun w h => List.mem_cons_of_mem _ (jm_iX3 w h)
  have lk15 := hts (.fieldLink RX3 15 "IntraMill$Picture" "across" "I") (List.mem_cons_of_mem _ mw_87)
  have lk19 := hts (.fieldLink RX3 19 "IntraMill$Picture" "down" "I") (List.mem_cons_of_mem _ mw_90)
  refine lv_aload_n hx hb dX3_blocks_0 rfl (lv_at hl 0 rfl) ?_
  refine va_get (D := D) (ci := 3) (v := .int pa) (C := RX3) (T := TX3) (N := 3) hx hb hts iX3 hown hK hP 0 rfl rfl 1 (by decide) lk15 (fun _ h9 => h9) rfl dX3_blocks_1 ?_
  refine lv_aload_n hx hb dX3_blocks_4 rfl (lv_at hl 0 rfl) ?_
  refine va_get (D := D) (ci := 3) (v := .int pd) (C := RX3) (T := TX3) (N := 3) hx hb hts iX3 hown hK hP 0 rfl rfl 2 (by decide) lk19 (fun _ h9 => h9) rfl dX3_blocks_5 ?_
  refine lv_imul hx hb dX3_blocks_8 ?_
  exact hret (pa * pd) () _ _ _ _ dX3_blocks_9 (vp_nar_int _) h hP hD hS
def wp_X3_leftOf (pa : Int32) (v1 : Int32) (K : Int32 → Prop) : Prop := ¬ pa = 0 ∧ K (4 * (jrem v1 pa))
abbrev jw_X3_leftOf : List Cond := .code yX3_leftOf cX3_leftOf 2 (some .int) :: jmAll
abbrev rmX3_leftOf : Room := { frames := 0, cells := 0, slots := 0, locals := 0 }
set_option maxHeartbeats 4000000 in
set_option maxRecDepth 100000 in
theorem c_X3_leftOf (l : Launch) (D : va_G) (cI cB : ClassId) (tt : Nat × Nat × Nat) (a_pi a_pix : Nat) (sz : Nat) (pa : Int32) (pd : Int32) (px : (Nat → Int32)) (v1 : Int32) {K : Int32 → Prop} (h : wp_X3_leftOf pa v1 K) : Met l yX3_leftOf jw_X3_leftOf rmX3_leftOf (va_Pc [.ref a_pi, .int v1] (jm_Pre D cI cB tt (wd_pi_pix cI cB a_pi a_pix pa pd px) sz)) (va_Qi (fun (r : Int32) (u : Unit) => K r) (jm_Post D cI cB (wd_pi_pix cI cB a_pi a_pix pa pd px) sz (fun (u : Unit) => wd_pi_pix cI cB a_pi a_pix pa pd px)) (va_A (wd_pi_pix cI cB a_pi a_pix pa pd px) sz)) 0 0 (va_A (wd_pi_pix cI cB a_pi a_pix pa pd px) sz) := by
  refine jm_metI (by decide +kernel) rfl rfl (Nat.le_of_ble_eq_true rfl) ?_
  intro p e s m args below meth c A Q ls C0 hP hD hl hret
  obtain ⟨hx, hb, hml, hr, hown, hts, hlocks, hA, hK, hE⟩ := C0
  have hS : va_S A s.heap s.heap [] := va_S.rf
  have hl : lv_has ls 2 [(0, .ref a_pi), (1, .int v1)] := hl
  unfold wp_X3_leftOf at h
  have hP : va_P D vwCl [(a_pi, .inr (3, [.ref a_pix, .int pa, .int pd])), (a_pix, .inl (cI, 1024, .inl px))] s.heap := hP
  have hD : va_D A [(a_pi, .inr (3, [.ref a_pix, .int pa, .int pd])), (a_pix, .inl (cI, 1024, .inl px))] := hD
  have iX3 : ∀ w ∈ wsX30, w ∈ jw_X3_leftOf := fun w h => List.mem_cons_of_mem _ (jm_iX3 w h)
  have lk15 := hts (.fieldLink RX3 15 "IntraMill$Picture" "across" "I") (List.mem_cons_of_mem _ mw_87)
  refine lv_iconst (v := 4) hx hb dX3_leftOf_0 (by decide) ?_
  refine lv_iload_n hx hb dX3_leftOf_1 rfl (lv_at hl 1 rfl) ?_
  refine lv_aload_n hx hb dX3_leftOf_2 rfl (lv_at hl 0 rfl) ?_
  refine va_get (D := D) (ci := 3) (v := .int pa) (C := RX3) (T := TX3) (N := 3) hx hb hts iX3 hown hK hP 0 rfl rfl 1 (by decide) lk15 (fun _ h9 => h9) rfl dX3_leftOf_3 ?_
  obtain ⟨hz_1, h⟩ := h
  refine lv_irem hx hb dX3_leftOf_6 hz_1 ?_
  refine lv_imul hx hb dX3_leftOf_7 ?_
  exact hret (4 * (jrem v1 pa)) () _ _ _ _ dX3_leftOf_8 (vp_nar_int _) h hP hD hS
def wp_X3_topOf (pa : Int32) (v1 : Int32) (K : Int32 → Prop) : Prop := ¬ pa = 0 ∧ K (4 * (v1 / pa))
abbrev jw_X3_topOf : List Cond := .code yX3_topOf cX3_topOf 2 (some .int) :: jmAll
abbrev rmX3_topOf : Room := { frames := 0, cells := 0, slots := 0, locals := 0 }
set_option maxHeartbeats 4000000 in
set_option maxRecDepth 100000 in
theorem c_X3_topOf (l : Launch) (D : va_G) (cI cB : ClassId) (tt : Nat × Nat × Nat) (a_pi a_pix : Nat) (sz : Nat) (pa : Int32) (pd : Int32) (px : (Nat → Int32)) (v1 : Int32) {K : Int32 → Prop} (h : wp_X3_topOf pa v1 K) : Met l yX3_topOf jw_X3_topOf rmX3_topOf (va_Pc [.ref a_pi, .int v1] (jm_Pre D cI cB tt (wd_pi_pix cI cB a_pi a_pix pa pd px) sz)) (va_Qi (fun (r : Int32) (u : Unit) => K r) (jm_Post D cI cB (wd_pi_pix cI cB a_pi a_pix pa pd px) sz (fun (u : Unit) => wd_pi_pix cI cB a_pi a_pix pa pd px)) (va_A (wd_pi_pix cI cB a_pi a_pix pa pd px) sz)) 0 0 (va_A (wd_pi_pix cI cB a_pi a_pix pa pd px) sz) := by
  refine jm_metI (by decide +kernel) rfl rfl (Nat.le_of_ble_eq_true rfl) ?_
  intro p e s m args below meth c A Q ls C0 hP hD hl hret
  obtain ⟨hx, hb, hml, hr, hown, hts, hlocks, hA, hK, hE⟩ := C0
  have hS : va_S A s.heap s.heap [] := va_S.rf
  have hl : lv_has ls 2 [(0, .ref a_pi), (1, .int v1)] := hl
  unfold wp_X3_topOf at h
  have hP : va_P D vwCl [(a_pi, .inr (3, [.ref a_pix, .int pa, .int pd])), (a_pix, .inl (cI, 1024, .inl px))] s.heap := hP
  have hD : va_D A [(a_pi, .inr (3, [.ref a_pix, .int pa, .int pd])), (a_pix, .inl (cI, 1024, .inl px))] := hD
  have iX3 : ∀ w ∈ wsX30, w ∈ jw_X3_topOf := fun w h => List.mem_cons_of_mem _ (jm_iX3 w h)
  have lk15 := hts (.fieldLink RX3 15 "IntraMill$Picture" "across" "I") (List.mem_cons_of_mem _ mw_87)
  refine lv_iconst (v := 4) hx hb dX3_topOf_0 (by decide) ?_
  refine lv_iload_n hx hb dX3_topOf_1 rfl (lv_at hl 1 rfl) ?_
  refine lv_aload_n hx hb dX3_topOf_2 rfl (lv_at hl 0 rfl) ?_
  refine va_get (D := D) (ci := 3) (v := .int pa) (C := RX3) (T := TX3) (N := 3) hx hb hts iX3 hown hK hP 0 rfl rfl 1 (by decide) lk15 (fun _ h9 => h9) rfl dX3_topOf_3 ?_
  obtain ⟨hz_1, h⟩ := h
  refine lv_idiv hx hb dX3_topOf_6 hz_1 ?_
  refine lv_imul hx hb dX3_topOf_7 ?_
  exact hret (4 * (v1 / pa)) () _ _ _ _ dX3_topOf_8 (vp_nar_int _) h hP hD hS
def wp_X3_get (px : (Nat → Int32)) (v1 v2 : Int32) (K : Int32 → Prop) : Prop := vp_in ((32 * v2) + v1) 1024 ∧ K (jat px ((32 * v2) + v1))
abbrev jw_X3_get : List Cond := .code yX3_get cX3_get 3 (some .int) :: jmAll
abbrev rmX3_get : Room := { frames := 0, cells := 0, slots := 0, locals := 0 }
set_option maxHeartbeats 4000000 in
set_option maxRecDepth 100000 in
theorem c_X3_get (l : Launch) (D : va_G) (cI cB : ClassId) (tt : Nat × Nat × Nat) (a_pi a_pix : Nat) (sz : Nat) (pa : Int32) (pd : Int32) (px : (Nat → Int32)) (v1 v2 : Int32) {K : Int32 → Prop} (h : wp_X3_get px v1 v2 K) : Met l yX3_get jw_X3_get rmX3_get (va_Pc [.ref a_pi, .int v1, .int v2] (jm_Pre D cI cB tt (wd_pi_pix cI cB a_pi a_pix pa pd px) sz)) (va_Qi (fun (r : Int32) (u : Unit) => K r) (jm_Post D cI cB (wd_pi_pix cI cB a_pi a_pix pa pd px) sz (fun (u : Unit) => wd_pi_pix cI cB a_pi a_pix pa pd px)) (va_A (wd_pi_pix cI cB a_pi a_pix pa pd px) sz)) 0 0 (va_A (wd_pi_pix cI cB a_pi a_pix pa pd px) sz) := by
  refine jm_metI (by decide +kernel) rfl rfl (Nat.le_of_ble_eq_true rfl) ?_
  intro p e s m args below meth c A Q ls C0 hP hD hl hret
  obtain ⟨hx, hb, hml, hr, hown, hts, hlocks, hA, hK, hE⟩ := C0
  have hS : va_S A s.heap s.heap [] := va_S.rf
  have hl : lv_has ls 3 [(0, .ref a_pi), (1, .int v1), (2, .int v2)] := hl
  unfold wp_X3_get at h
  have hP : va_P D vwCl [(a_pi, .inr (3, [.ref a_pix, .int pa, .int pd])), (a_pix, .inl (cI, 1024, .inl px))] s.heap := hP
  have hD : va_D A [(a_pi, .inr (3, [.ref a_pix, .int pa, .int pd])), (a_pix, .inl (cI, 1024, .inl px))] := hD
  have iX3 : ∀ w ∈ wsX30, w ∈ jw_X3_get := fun w h => List.mem_cons_of_mem _ (jm_iX3 w h)
  have lk11 := hts (.fieldLink RX3 11 "IntraMill$Picture" "pixels" "[I") (List.mem_cons_of_mem _ mw_86)
  refine lv_aload_n hx hb dX3_get_0 rfl (lv_at hl 0 rfl) ?_
  refine va_get (D := D) (ci := 3) (v := .ref a_pix) (C := RX3) (T := TX3) (N := 3) hx hb hts iX3 hown hK hP 0 rfl rfl 0 (by decide) lk11 (fun _ h9 => h9) rfl dX3_get_1 ?_
  refine lv_bipush (v := 32) hx hb dX3_get_4 (by decide) ?_
  refine lv_iload_n hx hb dX3_get_6 rfl (lv_at hl 2 rfl) ?_
  refine lv_imul hx hb dX3_get_7 ?_
  refine lv_iload_n hx hb dX3_get_8 rfl (lv_at hl 1 rfl) ?_
  refine lv_iadd hx hb dX3_get_9 ?_
  obtain ⟨hi_1, h⟩ := h
  refine va_iald hx hb hK hP 1 0 rfl rfl hi_1 dX3_get_10 ?_
  exact hret (jat px ((32 * v2) + v1)) () _ _ _ _ dX3_get_11 (vp_nar_int _) h hP hD hS
def wp_X3_set (px : (Nat → Int32)) (v1 v2 v3 : Int32) (K : (Nat → Int32) → Prop) : Prop := vp_in ((32 * v2) + v1) 1024 ∧ K (jup px ((32 * v2) + v1) v3)
abbrev jw_X3_set : List Cond := .code yX3_set cX3_set 4 none :: jmAll
abbrev rmX3_set : Room := { frames := 0, cells := 0, slots := 0, locals := 0 }
set_option maxHeartbeats 4000000 in
set_option maxRecDepth 100000 in
theorem c_X3_set (l : Launch) (D : va_G) (cI cB : ClassId) (tt : Nat × Nat × Nat) (a_pi a_pix : Nat) (sz : Nat) (pa : Int32) (pd : Int32) (px : (Nat → Int32)) (v1 v2 v3 : Int32) {K : (Nat → Int32) → Prop} (h : wp_X3_set px v1 v2 v3 K) : Met l yX3_set jw_X3_set rmX3_set (va_Pc [.ref a_pi, .int v1, .int v2, .int v3] (jm_Pre D cI cB tt (wd_pi_pix cI cB a_pi a_pix pa pd px) sz)) (va_Qv (fun (u : (Nat → Int32)) => K u) (jm_Post D cI cB (wd_pi_pix cI cB a_pi a_pix pa pd px) sz (fun (u : (Nat → Int32)) => wd_pi_pix cI cB a_pi a_pix pa pd u)) (va_A (wd_pi_pix cI cB a_pi a_pix pa pd px) sz)) 0 0 (va_A (wd_pi_pix cI cB a_pi a_pix pa pd px) sz) := by
  refine jm_metV (by decide +kernel) rfl rfl (Nat.le_of_ble_eq_true rfl) ?_
  intro p e s m args below meth c A Q ls C0 hP hD hl hret
  obtain ⟨hx, hb, hml, hr, hown, hts, hlocks, hA, hK, hE⟩ := C0
  have hS : va_S A s.heap s.heap [] := va_S.rf
  have hl : lv_has ls 4 [(0, .ref a_pi), (1, .int v1), (2, .int v2), (3, .int v3)] := hl
  unfold wp_X3_set at h
  have hP : va_P D vwCl [(a_pi, .inr (3, [.ref a_pix, .int pa, .int pd])), (a_pix, .inl (cI, 1024, .inl px))] s.heap := hP
  have hD : va_D A [(a_pi, .inr (3, [.ref a_pix, .int pa, .int pd])), (a_pix, .inl (cI, 1024, .inl px))] := hD
  have iX3 : ∀ w ∈ wsX30, w ∈ jw_X3_set := fun w h => List.mem_cons_of_mem _ (jm_iX3 w h)
  have lk11 := hts (.fieldLink RX3 11 "IntraMill$Picture" "pixels" "[I") (List.mem_cons_of_mem _ mw_86)
  refine lv_aload_n hx hb dX3_set_0 rfl (lv_at hl 0 rfl) ?_
  refine va_get (D := D) (ci := 3) (v := .ref a_pix) (C := RX3) (T := TX3) (N := 3) hx hb hts iX3 hown hK hP 0 rfl rfl 0 (by decide) lk11 (fun _ h9 => h9) rfl dX3_set_1 ?_
  refine lv_bipush (v := 32) hx hb dX3_set_4 (by decide) ?_
  refine lv_iload_n hx hb dX3_set_6 rfl (lv_at hl 2 rfl) ?_
  refine lv_imul hx hb dX3_set_7 ?_
  refine lv_iload_n hx hb dX3_set_8 rfl (lv_at hl 1 rfl) ?_
  refine lv_iadd hx hb dX3_set_9 ?_
  refine lv_iload_n hx hb dX3_set_10 rfl (lv_at hl 3 rfl) ?_
  obtain ⟨hi_1, h⟩ := h
  refine va_iast hx hb hK hP hD hS 1 0 rfl rfl hi_1 dX3_set_11 (fun H_2 locs hP hD hS => ?_)
  have hP : va_P D vwCl [(a_pi, .inr (3, [.ref a_pix, .int pa, .int pd])), (a_pix, .inl (cI, 1024, .inl (jup px ((32 * v2) + v1) v3)))] H_2 := hP
  have hD : va_D A [(a_pi, .inr (3, [.ref a_pix, .int pa, .int pd])), (a_pix, .inl (cI, 1024, .inl (jup px ((32 * v2) + v1) v3)))] := hD
  exact hret (jup px ((32 * v2) + v1) v3) _ _ _ _ dX3_set_12 h hP hD hS
def wp_X3_smoothAcross (px : (Nat → Int32)) (v1 v2 v3 : Int32) (K : (Nat → Int32) → Prop) : Prop := vp_in (v1 - (2 * v2)) 1024 ∧ ∀ x4_2 : Int32, x4_2 = jat px (v1 - (2 * v2)) → vp_in (v1 - v2) 1024 ∧ ∀ x5_4 : Int32, x5_4 = jat px (v1 - v2) → vp_in v1 1024 ∧ ∀ x6_6 : Int32, x6_6 = jat px v1 → vp_in (v1 + v2) 1024 ∧ ∀ x7_8 : Int32, x7_8 = jat px (v1 + v2) → ∀ x8_9 : Int32, x8_9 = (v3 / 4) + 1 → ((((v3 * v3) / 24) ≤ (jabs (x5_4 - x6_6)) → K px) ∧ (¬ ((v3 * v3) / 24) ≤ (jabs (x5_4 - x6_6)) → ((x8_9 ≤ (jabs (x5_4 - x4_2)) → K px) ∧ (¬ x8_9 ≤ (jabs (x5_4 - x4_2)) → (((jabs (x7_8 - x6_6)) < x8_9 → ∀ x9_13 : Int32, x9_13 = (v3 / 8) + 1 → wp_X9_bring (((((4 * (x6_6 - x5_4)) + x4_2) - x7_8) + 4) >>> (3 &&& 31)) (-x9_13) x9_13 (fun (r_14 : Int32) => wp_X9_bring (x5_4 + r_14) 0 255 (fun (r_15 : Int32) => vp_in (v1 - v2) 1024 ∧ wp_X9_bring (x6_6 - r_14) 0 255 (fun (r_18 : Int32) => vp_in v1 1024 ∧ K (jup (jup px (v1 - v2) r_15) v1 r_18))))) ∧ (¬ (jabs (x7_8 - x6_6)) < x8_9 → K px))))))
abbrev jw_X3_smoothAcross : List Cond := .code yX3_smoothAcross cX3_smoothAcross 11 none :: jmAll
abbrev rmX3_smoothAcross : Room := { frames := 1, cells := 0, slots := 0, locals := 22 }
set_option maxHeartbeats 4000000 in
set_option maxRecDepth 100000 in
theorem c_X3_smoothAcross (l : Launch) (D : va_G) (cI cB : ClassId) (tt : Nat × Nat × Nat) (a_pi a_pix : Nat) (sz : Nat) (pa : Int32) (pd : Int32) (px : (Nat → Int32)) (v1 v2 v3 : Int32) {K : (Nat → Int32) → Prop} (h : wp_X3_smoothAcross px v1 v2 v3 K) : Met l yX3_smoothAcross jw_X3_smoothAcross rmX3_smoothAcross (va_Pc [.ref a_pi, .int v1, .int v2, .int v3] (jm_Pre D cI cB tt (wd_pi_pix cI cB a_pi a_pix pa pd px) sz)) (va_Qv (fun (u : (Nat → Int32)) => K u) (jm_Post D cI cB (wd_pi_pix cI cB a_pi a_pix pa pd px) sz (fun (u : (Nat → Int32)) => wd_pi_pix cI cB a_pi a_pix pa pd u)) (va_A (wd_pi_pix cI cB a_pi a_pix pa pd px) sz)) 0 0 (va_A (wd_pi_pix cI cB a_pi a_pix pa pd px) sz) := by
  refine jm_metV (by decide +kernel) rfl rfl (Nat.le_of_ble_eq_true rfl) ?_
  intro p e s m args below meth c A Q ls C0 hP hD hl hret
  obtain ⟨hx, hb, hml, hr, hown, hts, hlocks, hA, hK, hE⟩ := C0
  have hS : va_S A s.heap s.heap [] := va_S.rf
  have hl : lv_has ls 11 [(0, .ref a_pi), (1, .int v1), (2, .int v2), (3, .int v3)] := hl
  unfold wp_X3_smoothAcross at h
  have hP : va_P D vwCl [(a_pi, .inr (3, [.ref a_pix, .int pa, .int pd])), (a_pix, .inl (cI, 1024, .inl px))] s.heap := hP
  have hD : va_D A [(a_pi, .inr (3, [.ref a_pix, .int pa, .int pd])), (a_pix, .inl (cI, 1024, .inl px))] := hD
  have iX3 : ∀ w ∈ wsX30, w ∈ jw_X3_smoothAcross := fun w h => List.mem_cons_of_mem _ (jm_iX3 w h)
  have lk11 := hts (.fieldLink RX3 11 "IntraMill$Picture" "pixels" "[I") (List.mem_cons_of_mem _ mw_86)
  refine lv_aload_n hx hb dX3_smoothAcross_0 rfl (lv_at hl 0 rfl) ?_
  refine va_get (D := D) (ci := 3) (v := .ref a_pix) (C := RX3) (T := TX3) (N := 3) hx hb hts iX3 hown hK hP 0 rfl rfl 0 (by decide) lk11 (fun _ h9 => h9) rfl dX3_smoothAcross_1 ?_
  refine lv_iload_n hx hb dX3_smoothAcross_4 rfl (lv_at hl 1 rfl) ?_
  refine lv_iconst (v := 2) hx hb dX3_smoothAcross_5 (by decide) ?_
  refine lv_iload_n hx hb dX3_smoothAcross_6 rfl (lv_at hl 2 rfl) ?_
  refine lv_imul hx hb dX3_smoothAcross_7 ?_
  refine lv_isub hx hb dX3_smoothAcross_8 ?_
  obtain ⟨hi_1, h⟩ := h
  refine va_iald hx hb hK hP 1 0 rfl rfl hi_1 dX3_smoothAcross_9 ?_
  refine lv_topi (fun x4_2 ex4_2 => ?_)
  have h := h x4_2 ex4_2
  refine lv_istore (lv' := [(4, .int x4_2), (0, .ref a_pi), (1, .int v1), (2, .int v2), (3, .int v3)]) hx hb dX3_smoothAcross_10 hl (by decide) rfl (fun ls hl => ?_)
  refine lv_aload_n hx hb dX3_smoothAcross_12 rfl (lv_at hl 1 rfl) ?_
  refine va_get (D := D) (ci := 3) (v := .ref a_pix) (C := RX3) (T := TX3) (N := 3) hx hb hts iX3 hown hK hP 0 rfl rfl 0 (by decide) lk11 (fun _ h9 => h9) rfl dX3_smoothAcross_13 ?_
  refine lv_iload_n hx hb dX3_smoothAcross_16 rfl (lv_at hl 2 rfl) ?_
  refine lv_iload_n hx hb dX3_smoothAcross_17 rfl (lv_at hl 3 rfl) ?_
  refine lv_isub hx hb dX3_smoothAcross_18 ?_
  obtain ⟨hi_3, h⟩ := h
  refine va_iald hx hb hK hP 1 0 rfl rfl hi_3 dX3_smoothAcross_19 ?_
  refine lv_topi (fun x5_4 ex5_4 => ?_)
  have h := h x5_4 ex5_4
  refine lv_istore (lv' := [(5, .int x5_4), (4, .int x4_2), (0, .ref a_pi), (1, .int v1), (2, .int v2), (3, .int v3)]) hx hb dX3_smoothAcross_20 hl (by decide) rfl (fun ls hl => ?_)
  refine lv_aload_n hx hb dX3_smoothAcross_22 rfl (lv_at hl 2 rfl) ?_
  refine va_get (D := D) (ci := 3) (v := .ref a_pix) (C := RX3) (T := TX3) (N := 3) hx hb hts iX3 hown hK hP 0 rfl rfl 0 (by decide) lk11 (fun _ h9 => h9) rfl dX3_smoothAcross_23 ?_
  refine lv_iload_n hx hb dX3_smoothAcross_26 rfl (lv_at hl 3 rfl) ?_
  obtain ⟨hi_5, h⟩ := h
  refine va_iald hx hb hK hP 1 0 rfl rfl hi_5 dX3_smoothAcross_27 ?_
  refine lv_topi (fun x6_6 ex6_6 => ?_)
  have h := h x6_6 ex6_6
  refine lv_istore (lv' := [(6, .int x6_6), (5, .int x5_4), (4, .int x4_2), (0, .ref a_pi), (1, .int v1), (2, .int v2), (3, .int v3)]) hx hb dX3_smoothAcross_28 hl (by decide) rfl (fun ls hl => ?_)
  refine lv_aload_n hx hb dX3_smoothAcross_30 rfl (lv_at hl 3 rfl) ?_
  refine va_get (D := D) (ci := 3) (v := .ref a_pix) (C := RX3) (T := TX3) (N := 3) hx hb hts iX3 hown hK hP 0 rfl rfl 0 (by decide) lk11 (fun _ h9 => h9) rfl dX3_smoothAcross_31 ?_
  refine lv_iload_n hx hb dX3_smoothAcross_34 rfl (lv_at hl 4 rfl) ?_
  refine lv_iload_n hx hb dX3_smoothAcross_35 rfl (lv_at hl 5 rfl) ?_
  refine lv_iadd hx hb dX3_smoothAcross_36 ?_
  obtain ⟨hi_7, h⟩ := h
  refine va_iald hx hb hK hP 1 0 rfl rfl hi_7 dX3_smoothAcross_37 ?_
  refine lv_topi (fun x7_8 ex7_8 => ?_)
  have h := h x7_8 ex7_8
  refine lv_istore (lv' := [(7, .int x7_8), (6, .int x6_6), (5, .int x5_4), (4, .int x4_2), (0, .ref a_pi), (1, .int v1), (2, .int v2), (3, .int v3)]) hx hb dX3_smoothAcross_38 hl (by decide) rfl (fun ls hl => ?_)
  refine lv_iload_n hx hb dX3_smoothAcross_40 rfl (lv_at hl 7 rfl) ?_
  refine lv_iconst (v := 4) hx hb dX3_smoothAcross_41 (by decide) ?_
  refine lv_idiv hx hb dX3_smoothAcross_42 (by decide) ?_
  refine lv_iconst (v := 1) hx hb dX3_smoothAcross_43 (by decide) ?_
  refine lv_iadd hx hb dX3_smoothAcross_44 ?_
  refine lv_topi (fun x8_9 ex8_9 => ?_)
  have h := h x8_9 ex8_9
  refine lv_istore (lv' := [(8, .int x8_9), (7, .int x7_8), (6, .int x6_6), (5, .int x5_4), (4, .int x4_2), (0, .ref a_pi), (1, .int v1), (2, .int v2), (3, .int v3)]) hx hb dX3_smoothAcross_45 hl (by decide) rfl (fun ls hl => ?_)
  refine lv_iload hx hb dX3_smoothAcross_47 (lv_at hl 3 rfl) ?_
  refine lv_iload hx hb dX3_smoothAcross_49 (lv_at hl 2 rfl) ?_
  refine lv_isub hx hb dX3_smoothAcross_51 ?_
  refine va_mabs hx hb (hml.trans hl.1.symm) hown (hts (.methodLink RX3 26 Lib.Math.abs.name) (List.mem_cons_of_mem _ mw_491)) (hts (.static Lib.Math.abs.name) (List.mem_cons_of_mem _ mw_492)) (hts (.initialized "java/lang/Math") (List.mem_cons_of_mem _ mw_70)) (hts (.code Lib.Math.abs.name Lib.Math.abs.code 1 (some .int)) (List.mem_cons_of_mem _ mw_493)) (Nat.le_of_ble_eq_true rfl) (Nat.le_of_ble_eq_true rfl) (Nat.zero_le _) (Nat.zero_le _) dX3_smoothAcross_52 ?_
  refine lv_iload_n hx hb dX3_smoothAcross_55 rfl (lv_at hl 8 rfl) ?_
  refine lv_iload_n hx hb dX3_smoothAcross_56 rfl (lv_at hl 8 rfl) ?_
  refine lv_imul hx hb dX3_smoothAcross_57 ?_
  refine lv_bipush (v := 24) hx hb dX3_smoothAcross_58 (by decide) ?_
  refine lv_idiv hx hb dX3_smoothAcross_60 (by decide) ?_
  refine lv_icmp_ge (tgt := 90) hx hb dX3_smoothAcross_61 (by decide) (fun c_10 => ?_) (fun c_10 => ?_)
  · have h := h.1 c_10
    exact hret (px) _ _ _ _ dX3_smoothAcross_90 h hP hD hS
  · have h := h.2 c_10
    refine lv_iload hx hb dX3_smoothAcross_64 (lv_at hl 3 rfl) ?_
    refine lv_iload hx hb dX3_smoothAcross_66 (lv_at hl 4 rfl) ?_
    refine lv_isub hx hb dX3_smoothAcross_68 ?_
    refine va_mabs hx hb (hml.trans hl.1.symm) hown (hts (.methodLink RX3 26 Lib.Math.abs.name) (List.mem_cons_of_mem _ mw_491)) (hts (.static Lib.Math.abs.name) (List.mem_cons_of_mem _ mw_492)) (hts (.initialized "java/lang/Math") (List.mem_cons_of_mem _ mw_70)) (hts (.code Lib.Math.abs.name Lib.Math.abs.code 1 (some .int)) (List.mem_cons_of_mem _ mw_493)) (Nat.le_of_ble_eq_true rfl) (Nat.le_of_ble_eq_true rfl) (Nat.zero_le _) (Nat.zero_le _) dX3_smoothAcross_69 ?_
    refine lv_iload hx hb dX3_smoothAcross_72 (lv_at hl 0 rfl) ?_
    refine lv_icmp_ge (tgt := 90) hx hb dX3_smoothAcross_74 (by decide) (fun c_11 => ?_) (fun c_11 => ?_)
    · have h := h.1 c_11
      exact hret (px) _ _ _ _ dX3_smoothAcross_90 h hP hD hS
    · have h := h.2 c_11
      refine lv_iload hx hb dX3_smoothAcross_77 (lv_at hl 1 rfl) ?_
      refine lv_iload hx hb dX3_smoothAcross_79 (lv_at hl 2 rfl) ?_
      refine lv_isub hx hb dX3_smoothAcross_81 ?_
      refine va_mabs hx hb (hml.trans hl.1.symm) hown (hts (.methodLink RX3 26 Lib.Math.abs.name) (List.mem_cons_of_mem _ mw_491)) (hts (.static Lib.Math.abs.name) (List.mem_cons_of_mem _ mw_492)) (hts (.initialized "java/lang/Math") (List.mem_cons_of_mem _ mw_70)) (hts (.code Lib.Math.abs.name Lib.Math.abs.code 1 (some .int)) (List.mem_cons_of_mem _ mw_493)) (Nat.le_of_ble_eq_true rfl) (Nat.le_of_ble_eq_true rfl) (Nat.zero_le _) (Nat.zero_le _) dX3_smoothAcross_82 ?_
      refine lv_iload hx hb dX3_smoothAcross_85 (lv_at hl 0 rfl) ?_
      refine lv_icmp_lt (tgt := 91) hx hb dX3_smoothAcross_87 (by decide) (fun c_12 => ?_) (fun c_12 => ?_)
      · have h := h.1 c_12
        refine lv_iload_n hx hb dX3_smoothAcross_91 rfl (lv_at hl 8 rfl) ?_
        refine lv_bipush (v := 8) hx hb dX3_smoothAcross_92 (by decide) ?_
        refine lv_idiv hx hb dX3_smoothAcross_94 (by decide) ?_
        refine lv_iconst (v := 1) hx hb dX3_smoothAcross_95 (by decide) ?_
        refine lv_iadd hx hb dX3_smoothAcross_96 ?_
        refine lv_topi (fun x9_13 ex9_13 => ?_)
        have h := h x9_13 ex9_13
        refine lv_istore (lv' := [(9, .int x9_13), (8, .int x8_9), (7, .int x7_8), (6, .int x6_6), (5, .int x5_4), (4, .int x4_2), (0, .ref a_pi), (1, .int v1), (2, .int v2), (3, .int v3)]) hx hb dX3_smoothAcross_97 hl (by decide) rfl (fun ls hl => ?_)
        refine lv_iconst (v := 4) hx hb dX3_smoothAcross_99 (by decide) ?_
        refine lv_iload hx hb dX3_smoothAcross_100 (lv_at hl 3 rfl) ?_
        refine lv_iload hx hb dX3_smoothAcross_102 (lv_at hl 4 rfl) ?_
        refine lv_isub hx hb dX3_smoothAcross_104 ?_
        refine lv_imul hx hb dX3_smoothAcross_105 ?_
        refine lv_iload hx hb dX3_smoothAcross_106 (lv_at hl 5 rfl) ?_
        refine lv_iadd hx hb dX3_smoothAcross_108 ?_
        refine lv_iload hx hb dX3_smoothAcross_109 (lv_at hl 2 rfl) ?_
        refine lv_isub hx hb dX3_smoothAcross_111 ?_
        refine lv_iconst (v := 4) hx hb dX3_smoothAcross_112 (by decide) ?_
        refine lv_iadd hx hb dX3_smoothAcross_113 ?_
        refine lv_iconst (v := 3) hx hb dX3_smoothAcross_114 (by decide) ?_
        refine lv_ishr hx hb dX3_smoothAcross_115 ?_
        refine lv_iload hx hb dX3_smoothAcross_116 (lv_at hl 0 rfl) ?_
        refine lv_ineg hx hb dX3_smoothAcross_118 ?_
        refine lv_iload hx hb dX3_smoothAcross_119 (lv_at hl 0 rfl) ?_
        have hPc := hP.sub (ws' := []) [] rfl
        have hDc := hD.sub (ws' := []) [] (by decide) rfl
        have hFc := va_free (wc := []) hD hS hA [] rfl
        refine jm_calli (wr := [(a_pi, .inr (3, [.ref a_pix, .int pa, .int pd])), (a_pix, .inl (cI, 1024, .inl px))]) (va_runSN (As := [.int (((((4 * (x6_6 - x5_4)) + x4_2) - x7_8) + 4) >>> (3 &&& 31)), .int (-x9_13), .int x9_13]) (rest := []) ⟨hx, hb, hml, hown, hts⟩ (c_X9_bring l D cI cB tt s.heap.size (((((4 * (x6_6 - x5_4)) + x4_2) - x7_8) + 4) >>> (3 &&& 31)) (-x9_13) x9_13 h) ⟨va_cnB 3 hts (jm_gN mw_478) rfl rfl rfl (hE.2.1 ("IntraMill$Picture", 32, yX9_bring) (List.mem_of_getElem? (i := 6) rfl)) (hts (.initialized RX9) (List.mem_cons_of_mem _ mw_55)) (by decide +kernel) ⟨Nat.le_of_ble_eq_true rfl, Nat.le_of_ble_eq_true rfl⟩, hts (.static yX9_bring) (List.mem_cons_of_mem _ mw_477), trivial⟩ ⟨jm_blind, jm_pre hK hE hS hPc hDc hFc _⟩ rfl rfl hl.1 rfl (lv_room (Nat.le_of_ble_eq_true rfl)) dX3_smoothAcross_121 ⟨Nat.zero_le _, Nat.zero_le _⟩) hS hP hD [] [0, 1] rfl rfl (by decide) (by decide) hFc (fun r_14 u_14 H_14 locs hw hP hD hS => ?_)
        have h := hw
        have hP : va_P D vwCl [(a_pi, .inr (3, [.ref a_pix, .int pa, .int pd])), (a_pix, .inl (cI, 1024, .inl px))] H_14 := hP.sub [0, 1] rfl
        have hD : va_D A [(a_pi, .inr (3, [.ref a_pix, .int pa, .int pd])), (a_pix, .inl (cI, 1024, .inl px))] := hD.sub [0, 1] (by decide) rfl
        refine lv_istore (lv' := [(10, .int r_14), (9, .int x9_13), (8, .int x8_9), (7, .int x7_8), (6, .int x6_6), (5, .int x5_4), (4, .int x4_2), (0, .ref a_pi), (1, .int v1), (2, .int v2), (3, .int v3)]) hx hb dX3_smoothAcross_124 hl (by decide) rfl (fun ls hl => ?_)
        refine lv_aload_n hx hb dX3_smoothAcross_126 rfl (lv_at hl 7 rfl) ?_
        refine va_get (D := D) (ci := 3) (v := .ref a_pix) (C := RX3) (T := TX3) (N := 3) hx hb hts iX3 hown hK hP 0 rfl rfl 0 (by decide) lk11 (fun _ h9 => h9) rfl dX3_smoothAcross_127 ?_
        refine lv_iload_n hx hb dX3_smoothAcross_130 rfl (lv_at hl 8 rfl) ?_
        refine lv_iload_n hx hb dX3_smoothAcross_131 rfl (lv_at hl 9 rfl) ?_
        refine lv_isub hx hb dX3_smoothAcross_132 ?_
        refine lv_iload hx hb dX3_smoothAcross_133 (lv_at hl 5 rfl) ?_
        refine lv_iload hx hb dX3_smoothAcross_135 (lv_at hl 0 rfl) ?_
        refine lv_iadd hx hb dX3_smoothAcross_137 ?_
        refine lv_iconst (v := 0) hx hb dX3_smoothAcross_138 (by decide) ?_
        refine lv_sipush (v := 255) hx hb dX3_smoothAcross_139 (by decide) ?_
        have hPc := hP.sub (ws' := []) [] rfl
        have hDc := hD.sub (ws' := []) [] (by decide) rfl
        have hFc := va_free (wc := []) hD hS hA [] rfl
        refine jm_calli (wr := [(a_pi, .inr (3, [.ref a_pix, .int pa, .int pd])), (a_pix, .inl (cI, 1024, .inl px))]) (va_runSN (As := [.int (x5_4 + r_14), .int 0, .int 255]) (rest := [.int (v1 - v2), .ref a_pix]) ⟨hx, hb, hml, hown, hts⟩ (c_X9_bring l D cI cB tt H_14.size (x5_4 + r_14) 0 255 h) ⟨va_cnB 3 hts (jm_gN mw_478) rfl rfl rfl (hE.2.1 ("IntraMill$Picture", 32, yX9_bring) (List.mem_of_getElem? (i := 6) rfl)) (hts (.initialized RX9) (List.mem_cons_of_mem _ mw_55)) (by decide +kernel) ⟨Nat.le_of_ble_eq_true rfl, Nat.le_of_ble_eq_true rfl⟩, hts (.static yX9_bring) (List.mem_cons_of_mem _ mw_477), trivial⟩ ⟨jm_blind, jm_pre hK hE hS hPc hDc hFc _⟩ rfl rfl hl.1 rfl (lv_room (Nat.le_of_ble_eq_true rfl)) dX3_smoothAcross_142 ⟨Nat.zero_le _, Nat.zero_le _⟩) hS hP hD [] [0, 1] rfl rfl (by decide) (by decide) hFc (fun r_15 u_15 H_15 locs hw hP hD hS => ?_)
        have h := hw
        have hP : va_P D vwCl [(a_pi, .inr (3, [.ref a_pix, .int pa, .int pd])), (a_pix, .inl (cI, 1024, .inl px))] H_15 := hP.sub [0, 1] rfl
        have hD : va_D A [(a_pi, .inr (3, [.ref a_pix, .int pa, .int pd])), (a_pix, .inl (cI, 1024, .inl px))] := hD.sub [0, 1] (by decide) rfl
        obtain ⟨hi_16, h⟩ := h
        refine va_iast hx hb hK hP hD hS 1 0 rfl rfl hi_16 dX3_smoothAcross_145 (fun H_17 locs hP hD hS => ?_)
        have hP : va_P D vwCl [(a_pi, .inr (3, [.ref a_pix, .int pa, .int pd])), (a_pix, .inl (cI, 1024, .inl (jup px (v1 - v2) r_15)))] H_17 := hP
        have hD : va_D A [(a_pi, .inr (3, [.ref a_pix, .int pa, .int pd])), (a_pix, .inl (cI, 1024, .inl (jup px (v1 - v2) r_15)))] := hD
        refine lv_aload_n hx hb dX3_smoothAcross_146 rfl (lv_at hl 7 rfl) ?_
        refine va_get (D := D) (ci := 3) (v := .ref a_pix) (C := RX3) (T := TX3) (N := 3) hx hb hts iX3 hown hK hP 0 rfl rfl 0 (by decide) lk11 (fun _ h9 => h9) rfl dX3_smoothAcross_147 ?_
        refine lv_iload_n hx hb dX3_smoothAcross_150 rfl (lv_at hl 8 rfl) ?_
        refine lv_iload hx hb dX3_smoothAcross_151 (lv_at hl 4 rfl) ?_
        refine lv_iload hx hb dX3_smoothAcross_153 (lv_at hl 0 rfl) ?_
        refine lv_isub hx hb dX3_smoothAcross_155 ?_
        refine lv_iconst (v := 0) hx hb dX3_smoothAcross_156 (by decide) ?_
        refine lv_sipush (v := 255) hx hb dX3_smoothAcross_157 (by decide) ?_
        have hPc := hP.sub (ws' := []) [] rfl
        have hDc := hD.sub (ws' := []) [] (by decide) rfl
        have hFc := va_free (wc := []) hD hS hA [] rfl
        refine jm_calli (wr := [(a_pi, .inr (3, [.ref a_pix, .int pa, .int pd])), (a_pix, .inl (cI, 1024, .inl (jup px (v1 - v2) r_15)))]) (va_runSN (As := [.int (x6_6 - r_14), .int 0, .int 255]) (rest := [.int v1, .ref a_pix]) ⟨hx, hb, hml, hown, hts⟩ (c_X9_bring l D cI cB tt H_17.size (x6_6 - r_14) 0 255 h) ⟨va_cnB 3 hts (jm_gN mw_478) rfl rfl rfl (hE.2.1 ("IntraMill$Picture", 32, yX9_bring) (List.mem_of_getElem? (i := 6) rfl)) (hts (.initialized RX9) (List.mem_cons_of_mem _ mw_55)) (by decide +kernel) ⟨Nat.le_of_ble_eq_true rfl, Nat.le_of_ble_eq_true rfl⟩, hts (.static yX9_bring) (List.mem_cons_of_mem _ mw_477), trivial⟩ ⟨jm_blind, jm_pre hK hE hS hPc hDc hFc _⟩ rfl rfl hl.1 rfl (lv_room (Nat.le_of_ble_eq_true rfl)) dX3_smoothAcross_160 ⟨Nat.zero_le _, Nat.zero_le _⟩) hS hP hD [] [0, 1] rfl rfl (by decide) (by decide) hFc (fun r_18 u_18 H_18 locs hw hP hD hS => ?_)
        have h := hw
        have hP : va_P D vwCl [(a_pi, .inr (3, [.ref a_pix, .int pa, .int pd])), (a_pix, .inl (cI, 1024, .inl (jup px (v1 - v2) r_15)))] H_18 := hP.sub [0, 1] rfl
        have hD : va_D A [(a_pi, .inr (3, [.ref a_pix, .int pa, .int pd])), (a_pix, .inl (cI, 1024, .inl (jup px (v1 - v2) r_15)))] := hD.sub [0, 1] (by decide) rfl
        obtain ⟨hi_19, h⟩ := h
        refine va_iast hx hb hK hP hD hS 1 0 rfl rfl hi_19 dX3_smoothAcross_163 (fun H_20 locs hP hD hS => ?_)
        have hP : va_P D vwCl [(a_pi, .inr (3, [.ref a_pix, .int pa, .int pd])), (a_pix, .inl (cI, 1024, .inl (jup (jup px (v1 - v2) r_15) v1 r_18)))] H_20 := hP
        have hD : va_D A [(a_pi, .inr (3, [.ref a_pix, .int pa, .int pd])), (a_pix, .inl (cI, 1024, .inl (jup (jup px (v1 - v2) r_15) v1 r_18)))] := hD
        exact hret (jup (jup px (v1 - v2) r_15) v1 r_18) _ _ _ _ dX3_smoothAcross_164 h hP hD hS
      · have h := h.2 c_12
        exact hret (px) _ _ _ _ dX3_smoothAcross_90 h hP hD hS
def wl_X3_smoothEdges_14 (v1 : Int32) (v2 : Int32) (pd : Int32) (K : (Nat → Int32) → Prop) (X : Int32 → (Nat → Int32) → Prop) : Nat → Int32 → (Nat → Int32) → Prop
  | 0, _, _ => False
  | n + 1, v3, px => (((4 * pd) ≤ v3 → X v3 px) ∧ (¬ (4 * pd) ≤ v3 → wp_X3_smoothAcross px ((32 * v3) + v2) 1 v1 (fun (px_3 : (Nat → Int32)) => ∀ x3_4 : Int32, x3_4 = v3 + 1 → wl_X3_smoothEdges_14 v1 v2 pd K X n x3_4 px_3)))
def wl_X3_smoothEdges_2 (v1 : Int32) (pa : Int32) (pd : Int32) (K : (Nat → Int32) → Prop) (X : Int32 → (Nat → Int32) → Prop) : Nat → Int32 → (Nat → Int32) → Prop
  | 0, _, _ => False
  | n + 1, v2, px => (((4 * pa) ≤ v2 → X v2 px) ∧ (¬ (4 * pa) ≤ v2 → ∃ k : Nat, wl_X3_smoothEdges_14 v1 v2 pd K (fun (v3_5 : Int32) (px_5 : (Nat → Int32)) => ∀ x2_6 : Int32, x2_6 = v2 + 4 → wl_X3_smoothEdges_2 v1 pa pd K X n x2_6 px_5) k 0 px))
def wl_X3_smoothEdges_62 (v1 : Int32) (v2 : Int32) (pa : Int32) (K : (Nat → Int32) → Prop) (X : Int32 → (Nat → Int32) → Prop) : Nat → Int32 → (Nat → Int32) → Prop
  | 0, _, _ => False
  | n + 1, v3, px => (((4 * pa) ≤ v3 → X v3 px) ∧ (¬ (4 * pa) ≤ v3 → wp_X3_smoothAcross px ((32 * v2) + v3) 32 v1 (fun (px_10 : (Nat → Int32)) => ∀ x3_11 : Int32, x3_11 = v3 + 1 → wl_X3_smoothEdges_62 v1 v2 pa K X n x3_11 px_10)))
def wl_X3_smoothEdges_50 (v1 : Int32) (pa : Int32) (pd : Int32) (K : (Nat → Int32) → Prop) (X : Int32 → (Nat → Int32) → Prop) : Nat → Int32 → (Nat → Int32) → Prop
  | 0, _, _ => False
  | n + 1, v2, px => (((4 * pd) ≤ v2 → X v2 px) ∧ (¬ (4 * pd) ≤ v2 → ∃ k : Nat, wl_X3_smoothEdges_62 v1 v2 pa K (fun (v3_12 : Int32) (px_12 : (Nat → Int32)) => ∀ x2_13 : Int32, x2_13 = v2 + 4 → wl_X3_smoothEdges_50 v1 pa pd K X n x2_13 px_12) k 0 px))
def wp_X3_smoothEdges (pa : Int32) (pd : Int32) (px : (Nat → Int32)) (v1 : Int32) (K : (Nat → Int32) → Prop) : Prop := ∃ k : Nat, wl_X3_smoothEdges_2 v1 pa pd K (fun (v2_7 : Int32) (px_7 : (Nat → Int32)) => ∃ k : Nat, wl_X3_smoothEdges_50 v1 pa pd K (fun (v2_14 : Int32) (px_14 : (Nat → Int32)) => K px_14) k 4 px_7) k 4 px
abbrev jw_X3_smoothEdges : List Cond := .code yX3_smoothEdges cX3_smoothEdges 4 none :: jmAll
abbrev rmX3_smoothEdges : Room := { frames := 2, cells := 0, slots := 0, locals := 52 }
set_option maxHeartbeats 4000000 in
set_option maxRecDepth 100000 in
theorem c_X3_smoothEdges (l : Launch) (D : va_G) (cI cB : ClassId) (tt : Nat × Nat × Nat) (a_pi a_pix : Nat) (sz : Nat) (pa : Int32) (pd : Int32) (px : (Nat → Int32)) (v1 : Int32) {K : (Nat → Int32) → Prop} (h : wp_X3_smoothEdges pa pd px v1 K) : Met l yX3_smoothEdges jw_X3_smoothEdges rmX3_smoothEdges (va_Pc [.ref a_pi, .int v1] (jm_Pre D cI cB tt (wd_pi_pix cI cB a_pi a_pix pa pd px) sz)) (va_Qv (fun (u : (Nat → Int32)) => K u) (jm_Post D cI cB (wd_pi_pix cI cB a_pi a_pix pa pd px) sz (fun (u : (Nat → Int32)) => wd_pi_pix cI cB a_pi a_pix pa pd u)) (va_A (wd_pi_pix cI cB a_pi a_pix pa pd px) sz)) 0 0 (va_A (wd_pi_pix cI cB a_pi a_pix pa pd px) sz) := by
  refine jm_metV (by decide +kernel) rfl rfl (Nat.le_of_ble_eq_true rfl) ?_
  intro p e s m args below meth c A Q ls C0 hP hD hl hret
  obtain ⟨hx, hb, hml, hr, hown, hts, hlocks, hA, hK, hE⟩ := C0
  have hS : va_S A s.heap s.heap [] := va_S.rf
  have hl : lv_has ls 4 [(0, .ref a_pi), (1, .int v1)] := hl
  unfold wp_X3_smoothEdges at h
  have hP : va_P D vwCl [(a_pi, .inr (3, [.ref a_pix, .int pa, .int pd])), (a_pix, .inl (cI, 1024, .inl px))] s.heap := hP
  have hD : va_D A [(a_pi, .inr (3, [.ref a_pix, .int pa, .int pd])), (a_pix, .inl (cI, 1024, .inl px))] := hD
  have iX3 : ∀ w ∈ wsX30, w ∈ jw_X3_smoothEdges := fun w h => List.mem_cons_of_mem _ (jm_iX3 w h)
  have lk15 := hts (.fieldLink RX3 15 "IntraMill$Picture" "across" "I") (List.mem_cons_of_mem _ mw_87)
  have lk19 := hts (.fieldLink RX3 19 "IntraMill$Picture" "down" "I") (List.mem_cons_of_mem _ mw_90)
  refine lv_iconst (v := 4) hx hb dX3_smoothEdges_0 (by decide) ?_
  refine lv_istore_n (lv' := [(2, .int 4), (0, .ref a_pi), (1, .int v1)]) hx hb dX3_smoothEdges_1 rfl hl (by decide) rfl (fun ls hl => ?_)
  obtain ⟨n_7, h⟩ := h
  have hL_7 : ∀ (v1 : Int32) (X : Int32 → (Nat → Int32) → Prop), (∀ (v2 : Int32) (px : (Nat → Int32)), ∀ (H : Heap) (locs : List Loc) (ls : Array Slot), X v2 px → va_P D vwCl [(a_pi, .inr (3, [.ref a_pix, .int pa, .int pd])), (a_pix, .inl (cI, 1024, .inl px))] H → va_D A [(a_pi, .inr (3, [.ref a_pix, .int pa, .int pd])), (a_pix, .inl (cI, 1024, .inl px))] → va_S A s.heap H locs → lv_has ls 4 [(0, .ref a_pi), (1, .int v1), (2, .int v2)] → W p l e rmX3_smoothEdges s m args below meth c H locs 0 0 Q (F0 m 48 ls [])) → ∀ (n : Nat) (v2 : Int32) (px : (Nat → Int32)), ∀ (H : Heap) (locs : List Loc) (ls : Array Slot), wl_X3_smoothEdges_2 v1 pa pd K X n v2 px → va_P D vwCl [(a_pi, .inr (3, [.ref a_pix, .int pa, .int pd])), (a_pix, .inl (cI, 1024, .inl px))] H → va_D A [(a_pi, .inr (3, [.ref a_pix, .int pa, .int pd])), (a_pix, .inl (cI, 1024, .inl px))] → va_S A s.heap H locs → lv_has ls 4 [(0, .ref a_pi), (1, .int v1), (2, .int v2)] → W p l e rmX3_smoothEdges s m args below meth c H locs 0 0 Q (F0 m 2 ls []) := by
    intro v1 X hX n
    induction n with
    | zero => intro v2 px H locs ls h; rw [wl_X3_smoothEdges_2] at h; exact h.elim
    | succ n ih =>
      intro v2 px H locs ls h hP hD hS hl
      rw [wl_X3_smoothEdges_2] at h
      refine lv_iload_n hx hb dX3_smoothEdges_2 rfl (lv_at hl 2 rfl) ?_
      refine lv_iconst (v := 4) hx hb dX3_smoothEdges_3 (by decide) ?_
      refine lv_aload_n hx hb dX3_smoothEdges_4 rfl (lv_at hl 0 rfl) ?_
      refine va_get (D := D) (ci := 3) (v := .int pa) (C := RX3) (T := TX3) (N := 3) hx hb hts iX3 hown hK hP 0 rfl rfl 1 (by decide) lk15 (fun _ h9 => h9) rfl dX3_smoothEdges_5 ?_
      refine lv_imul hx hb dX3_smoothEdges_8 ?_
      refine lv_icmp_ge (tgt := 48) hx hb dX3_smoothEdges_9 (by decide) (fun c_1 => ?_) (fun c_1 => ?_)
      · have h := h.1 c_1
        exact hX v2 px H _ _ h hP hD hS (lv_sub hl [0, 1, 2] rfl)
      · have h := h.2 c_1
        refine lv_iconst (v := 0) hx hb dX3_smoothEdges_12 (by decide) ?_
        refine lv_istore_n (lv' := [(3, .int 0), (0, .ref a_pi), (1, .int v1), (2, .int v2)]) hx hb dX3_smoothEdges_13 rfl hl (by decide) rfl (fun ls hl => ?_)
        obtain ⟨n_5, h⟩ := h
        have hL_5 : ∀ (v1 : Int32) (v2 : Int32) (X : Int32 → (Nat → Int32) → Prop), (∀ (v3 : Int32) (px : (Nat → Int32)), ∀ (H : Heap) (locs : List Loc) (ls : Array Slot), X v3 px → va_P D vwCl [(a_pi, .inr (3, [.ref a_pix, .int pa, .int pd])), (a_pix, .inl (cI, 1024, .inl px))] H → va_D A [(a_pi, .inr (3, [.ref a_pix, .int pa, .int pd])), (a_pix, .inl (cI, 1024, .inl px))] → va_S A s.heap H locs → lv_has ls 4 [(0, .ref a_pi), (1, .int v1), (2, .int v2), (3, .int v3)] → W p l e rmX3_smoothEdges s m args below meth c H locs 0 0 Q (F0 m 42 ls [])) → ∀ (n : Nat) (v3 : Int32) (px : (Nat → Int32)), ∀ (H : Heap) (locs : List Loc) (ls : Array Slot), wl_X3_smoothEdges_14 v1 v2 pd K X n v3 px → va_P D vwCl [(a_pi, .inr (3, [.ref a_pix, .int pa, .int pd])), (a_pix, .inl (cI, 1024, .inl px))] H → va_D A [(a_pi, .inr (3, [.ref a_pix, .int pa, .int pd])), (a_pix, .inl (cI, 1024, .inl px))] → va_S A s.heap H locs → lv_has ls 4 [(0, .ref a_pi), (1, .int v1), (2, .int v2), (3, .int v3)] → W p l e rmX3_smoothEdges s m args below meth c H locs 0 0 Q (F0 m 14 ls []) := by
          intro v1 v2 X hX n
          induction n with
          | zero => intro v3 px H locs ls h; rw [wl_X3_smoothEdges_14] at h; exact h.elim
          | succ n ih =>
            intro v3 px H locs ls h hP hD hS hl
            rw [wl_X3_smoothEdges_14] at h
            refine lv_iload_n hx hb dX3_smoothEdges_14 rfl (lv_at hl 3 rfl) ?_
            refine lv_iconst (v := 4) hx hb dX3_smoothEdges_15 (by decide) ?_
            refine lv_aload_n hx hb dX3_smoothEdges_16 rfl (lv_at hl 0 rfl) ?_
            refine va_get (D := D) (ci := 3) (v := .int pd) (C := RX3) (T := TX3) (N := 3) hx hb hts iX3 hown hK hP 0 rfl rfl 2 (by decide) lk19 (fun _ h9 => h9) rfl dX3_smoothEdges_17 ?_
            refine lv_imul hx hb dX3_smoothEdges_20 ?_
            refine lv_icmp_ge (tgt := 42) hx hb dX3_smoothEdges_21 (by decide) (fun c_2 => ?_) (fun c_2 => ?_)
            · have h := h.1 c_2
              exact hX v3 px H _ _ h hP hD hS (lv_sub hl [0, 1, 2, 3] rfl)
            · have h := h.2 c_2
              refine lv_aload_n hx hb dX3_smoothEdges_24 rfl (lv_at hl 0 rfl) ?_
              refine lv_bipush (v := 32) hx hb dX3_smoothEdges_25 (by decide) ?_
              refine lv_iload_n hx hb dX3_smoothEdges_27 rfl (lv_at hl 3 rfl) ?_
              refine lv_imul hx hb dX3_smoothEdges_28 ?_
              refine lv_iload_n hx hb dX3_smoothEdges_29 rfl (lv_at hl 2 rfl) ?_
              refine lv_iadd hx hb dX3_smoothEdges_30 ?_
              refine lv_iconst (v := 1) hx hb dX3_smoothEdges_31 (by decide) ?_
              refine lv_iload_n hx hb dX3_smoothEdges_32 rfl (lv_at hl 1 rfl) ?_
              have hPc := hP.sub (ws' := [(a_pi, .inr (3, [.ref a_pix, .int pa, .int pd])), (a_pix, .inl (cI, 1024, .inl px))]) [0, 1] rfl
              have hDc := hD.sub (ws' := [(a_pi, .inr (3, [.ref a_pix, .int pa, .int pd])), (a_pix, .inl (cI, 1024, .inl px))]) [0, 1] (by decide) rfl
              have hFc := va_free (wc := [(a_pi, .inr (3, [.ref a_pix, .int pa, .int pd])), (a_pix, .inl (cI, 1024, .inl px))]) hD hS hA [0, 1] rfl
              refine jm_callv (wr := []) (va_runV (As := [.int ((32 * v3) + v2), .int 1, .int v1]) (rest := []) ⟨hx, hb, hml, hown, hts⟩ (c_X3_smoothAcross l D cI cB tt a_pi a_pix H.size pa pd px ((32 * v3) + v2) 1 v1 h) (cwV 3 hts (jm_gV mw_487 mw_489 mw_15 mw_56 mw_490) rfl rfl rfl (by decide +kernel) ⟨Nat.le_of_ble_eq_true rfl, Nat.le_of_ble_eq_true rfl⟩) ⟨jm_blind, va_recv hK hPc (ci := 3) (q0 := 0) rfl rfl, jm_pre hK hE hS hPc hDc hFc _⟩ rfl rfl hl.1 rfl (lv_room (Nat.le_of_ble_eq_true rfl)) dX3_smoothEdges_33 ⟨Nat.zero_le _, Nat.zero_le _⟩) hS hP hD [0, 1] [] rfl rfl (by decide) (by decide) hFc (fun u_3 H_3 locs hw hP hD hS => ?_)
              obtain ⟨px_3, rfl⟩ : ∃ z, z = u_3 := ⟨_, rfl⟩
              have h := hw
              have hP : va_P D vwCl [(a_pi, .inr (3, [.ref a_pix, .int pa, .int pd])), (a_pix, .inl (cI, 1024, .inl px_3))] H_3 := hP.sub [0, 1] rfl
              have hD : va_D A [(a_pi, .inr (3, [.ref a_pix, .int pa, .int pd])), (a_pix, .inl (cI, 1024, .inl px_3))] := hD.sub [0, 1] (by decide) rfl
              obtain ⟨x3_4, ex3_4⟩ : ∃ y : Int32, y = v3 + 1 := ⟨_, rfl⟩
              have h := h x3_4 ex3_4
              refine lv_iinc (v := x3_4) (lv' := [(3, .int x3_4), (0, .ref a_pi), (1, .int v1), (2, .int v2)]) hx hb dX3_smoothEdges_36 hl (k := 3) rfl (by rw [ex3_4]; rfl) (by decide) rfl (fun ls hl => ?_)
              refine lv_goto (tgt := 14) hx hb dX3_smoothEdges_39 (by decide) ?_
              exact ih x3_4 px_3 H_3 _ _ h hP hD hS (lv_sub hl [1, 2, 3, 0] rfl)
        refine hL_5 v1 v2 _ ?_ n_5 0 px H _ _ h hP hD hS (lv_sub hl [1, 2, 3, 0] rfl)
        intro v3_5 px_5 H locs ls h hP hD hS hl
        obtain ⟨x2_6, ex2_6⟩ : ∃ y : Int32, y = v2 + 4 := ⟨_, rfl⟩
        have h := h x2_6 ex2_6
        refine lv_iinc (v := x2_6) (lv' := [(2, .int x2_6), (0, .ref a_pi), (1, .int v1), (3, .int v3_5)]) hx hb dX3_smoothEdges_42 hl (k := 2) rfl (by rw [ex2_6]; rfl) (by decide) rfl (fun ls hl => ?_)
        refine lv_goto (tgt := 2) hx hb dX3_smoothEdges_45 (by decide) ?_
        exact ih x2_6 px_5 H _ _ h hP hD hS (lv_sub hl [1, 2, 0] rfl)
  refine hL_7 v1 _ ?_ n_7 4 px s.heap _ _ h hP hD hS (lv_sub hl [1, 2, 0] rfl)
  intro v2_7 px_7 H locs ls h hP hD hS hl
  refine lv_iconst (v := 4) hx hb dX3_smoothEdges_48 (by decide) ?_
  refine lv_istore_n (lv' := [(2, .int 4), (0, .ref a_pi), (1, .int v1)]) hx hb dX3_smoothEdges_49 rfl hl (by decide) rfl (fun ls hl => ?_)
  obtain ⟨n_14, h⟩ := h
  have hL_14 : ∀ (v1 : Int32) (X : Int32 → (Nat → Int32) → Prop), (∀ (v2 : Int32) (px : (Nat → Int32)), ∀ (H : Heap) (locs : List Loc) (ls : Array Slot), X v2 px → va_P D vwCl [(a_pi, .inr (3, [.ref a_pix, .int pa, .int pd])), (a_pix, .inl (cI, 1024, .inl px))] H → va_D A [(a_pi, .inr (3, [.ref a_pix, .int pa, .int pd])), (a_pix, .inl (cI, 1024, .inl px))] → va_S A s.heap H locs → lv_has ls 4 [(0, .ref a_pi), (1, .int v1), (2, .int v2)] → W p l e rmX3_smoothEdges s m args below meth c H locs 0 0 Q (F0 m 97 ls [])) → ∀ (n : Nat) (v2 : Int32) (px : (Nat → Int32)), ∀ (H : Heap) (locs : List Loc) (ls : Array Slot), wl_X3_smoothEdges_50 v1 pa pd K X n v2 px → va_P D vwCl [(a_pi, .inr (3, [.ref a_pix, .int pa, .int pd])), (a_pix, .inl (cI, 1024, .inl px))] H → va_D A [(a_pi, .inr (3, [.ref a_pix, .int pa, .int pd])), (a_pix, .inl (cI, 1024, .inl px))] → va_S A s.heap H locs → lv_has ls 4 [(0, .ref a_pi), (1, .int v1), (2, .int v2)] → W p l e rmX3_smoothEdges s m args below meth c H locs 0 0 Q (F0 m 50 ls []) := by
    intro v1 X hX n
    induction n with
    | zero => intro v2 px H locs ls h; rw [wl_X3_smoothEdges_50] at h; exact h.elim
    | succ n ih =>
      intro v2 px H locs ls h hP hD hS hl
      rw [wl_X3_smoothEdges_50] at h
      refine lv_iload_n hx hb dX3_smoothEdges_50 rfl (lv_at hl 2 rfl) ?_
      refine lv_iconst (v := 4) hx hb dX3_smoothEdges_51 (by decide) ?_
      refine lv_aload_n hx hb dX3_smoothEdges_52 rfl (lv_at hl 0 rfl) ?_
      refine va_get (D := D) (ci := 3) (v := .int pd) (C := RX3) (T := TX3) (N := 3) hx hb hts iX3 hown hK hP 0 rfl rfl 2 (by decide) lk19 (fun _ h9 => h9) rfl dX3_smoothEdges_53 ?_
      refine lv_imul hx hb dX3_smoothEdges_56 ?_
      refine lv_icmp_ge (tgt := 97) hx hb dX3_smoothEdges_57 (by decide) (fun c_8 => ?_) (fun c_8 => ?_)
      · have h := h.1 c_8
        exact hX v2 px H _ _ h hP hD hS (lv_sub hl [0, 1, 2] rfl)
      · have h := h.2 c_8
        refine lv_iconst (v := 0) hx hb dX3_smoothEdges_60 (by decide) ?_
        refine lv_istore_n (lv' := [(3, .int 0), (0, .ref a_pi), (1, .int v1), (2, .int v2)]) hx hb dX3_smoothEdges_61 rfl hl (by decide) rfl (fun ls hl => ?_)
        obtain ⟨n_12, h⟩ := h
        have hL_12 : ∀ (v1 : Int32) (v2 : Int32) (X : Int32 → (Nat → Int32) → Prop), (∀ (v3 : Int32) (px : (Nat → Int32)), ∀ (H : Heap) (locs : List Loc) (ls : Array Slot), X v3 px → va_P D vwCl [(a_pi, .inr (3, [.ref a_pix, .int pa, .int pd])), (a_pix, .inl (cI, 1024, .inl px))] H → va_D A [(a_pi, .inr (3, [.ref a_pix, .int pa, .int pd])), (a_pix, .inl (cI, 1024, .inl px))] → va_S A s.heap H locs → lv_has ls 4 [(0, .ref a_pi), (1, .int v1), (2, .int v2), (3, .int v3)] → W p l e rmX3_smoothEdges s m args below meth c H locs 0 0 Q (F0 m 91 ls [])) → ∀ (n : Nat) (v3 : Int32) (px : (Nat → Int32)), ∀ (H : Heap) (locs : List Loc) (ls : Array Slot), wl_X3_smoothEdges_62 v1 v2 pa K X n v3 px → va_P D vwCl [(a_pi, .inr (3, [.ref a_pix, .int pa, .int pd])), (a_pix, .inl (cI, 1024, .inl px))] H → va_D A [(a_pi, .inr (3, [.ref a_pix, .int pa, .int pd])), (a_pix, .inl (cI, 1024, .inl px))] → va_S A s.heap H locs → lv_has ls 4 [(0, .ref a_pi), (1, .int v1), (2, .int v2), (3, .int v3)] → W p l e rmX3_smoothEdges s m args below meth c H locs 0 0 Q (F0 m 62 ls []) := by
          intro v1 v2 X hX n
          induction n with
          | zero => intro v3 px H locs ls h; rw [wl_X3_smoothEdges_62] at h; exact h.elim
          | succ n ih =>
            intro v3 px H locs ls h hP hD hS hl
            rw [wl_X3_smoothEdges_62] at h
            refine lv_iload_n hx hb dX3_smoothEdges_62 rfl (lv_at hl 3 rfl) ?_
            refine lv_iconst (v := 4) hx hb dX3_smoothEdges_63 (by decide) ?_
            refine lv_aload_n hx hb dX3_smoothEdges_64 rfl (lv_at hl 0 rfl) ?_
            refine va_get (D := D) (ci := 3) (v := .int pa) (C := RX3) (T := TX3) (N := 3) hx hb hts iX3 hown hK hP 0 rfl rfl 1 (by decide) lk15 (fun _ h9 => h9) rfl dX3_smoothEdges_65 ?_
            refine lv_imul hx hb dX3_smoothEdges_68 ?_
            refine lv_icmp_ge (tgt := 91) hx hb dX3_smoothEdges_69 (by decide) (fun c_9 => ?_) (fun c_9 => ?_)
            · have h := h.1 c_9
              exact hX v3 px H _ _ h hP hD hS (lv_sub hl [0, 1, 2, 3] rfl)
            · have h := h.2 c_9
              refine lv_aload_n hx hb dX3_smoothEdges_72 rfl (lv_at hl 0 rfl) ?_
              refine lv_bipush (v := 32) hx hb dX3_smoothEdges_73 (by decide) ?_
              refine lv_iload_n hx hb dX3_smoothEdges_75 rfl (lv_at hl 2 rfl) ?_
              refine lv_imul hx hb dX3_smoothEdges_76 ?_
              refine lv_iload_n hx hb dX3_smoothEdges_77 rfl (lv_at hl 3 rfl) ?_
              refine lv_iadd hx hb dX3_smoothEdges_78 ?_
              refine lv_bipush (v := 32) hx hb dX3_smoothEdges_79 (by decide) ?_
              refine lv_iload_n hx hb dX3_smoothEdges_81 rfl (lv_at hl 1 rfl) ?_
              have hPc := hP.sub (ws' := [(a_pi, .inr (3, [.ref a_pix, .int pa, .int pd])), (a_pix, .inl (cI, 1024, .inl px))]) [0, 1] rfl
              have hDc := hD.sub (ws' := [(a_pi, .inr (3, [.ref a_pix, .int pa, .int pd])), (a_pix, .inl (cI, 1024, .inl px))]) [0, 1] (by decide) rfl
              have hFc := va_free (wc := [(a_pi, .inr (3, [.ref a_pix, .int pa, .int pd])), (a_pix, .inl (cI, 1024, .inl px))]) hD hS hA [0, 1] rfl
              refine jm_callv (wr := []) (va_runV (As := [.int ((32 * v2) + v3), .int 32, .int v1]) (rest := []) ⟨hx, hb, hml, hown, hts⟩ (c_X3_smoothAcross l D cI cB tt a_pi a_pix H.size pa pd px ((32 * v2) + v3) 32 v1 h) (cwV 3 hts (jm_gV mw_487 mw_489 mw_15 mw_56 mw_490) rfl rfl rfl (by decide +kernel) ⟨Nat.le_of_ble_eq_true rfl, Nat.le_of_ble_eq_true rfl⟩) ⟨jm_blind, va_recv hK hPc (ci := 3) (q0 := 0) rfl rfl, jm_pre hK hE hS hPc hDc hFc _⟩ rfl rfl hl.1 rfl (lv_room (Nat.le_of_ble_eq_true rfl)) dX3_smoothEdges_82 ⟨Nat.zero_le _, Nat.zero_le _⟩) hS hP hD [0, 1] [] rfl rfl (by decide) (by decide) hFc (fun u_10 H_10 locs hw hP hD hS => ?_)
              obtain ⟨px_10, rfl⟩ : ∃ z, z = u_10 := ⟨_, rfl⟩
              have h := hw
              have hP : va_P D vwCl [(a_pi, .inr (3, [.ref a_pix, .int pa, .int pd])), (a_pix, .inl (cI, 1024, .inl px_10))] H_10 := hP.sub [0, 1] rfl
              have hD : va_D A [(a_pi, .inr (3, [.ref a_pix, .int pa, .int pd])), (a_pix, .inl (cI, 1024, .inl px_10))] := hD.sub [0, 1] (by decide) rfl
              obtain ⟨x3_11, ex3_11⟩ : ∃ y : Int32, y = v3 + 1 := ⟨_, rfl⟩
              have h := h x3_11 ex3_11
              refine lv_iinc (v := x3_11) (lv' := [(3, .int x3_11), (0, .ref a_pi), (1, .int v1), (2, .int v2)]) hx hb dX3_smoothEdges_85 hl (k := 3) rfl (by rw [ex3_11]; rfl) (by decide) rfl (fun ls hl => ?_)
              refine lv_goto (tgt := 62) hx hb dX3_smoothEdges_88 (by decide) ?_
              exact ih x3_11 px_10 H_10 _ _ h hP hD hS (lv_sub hl [1, 2, 3, 0] rfl)
        refine hL_12 v1 v2 _ ?_ n_12 0 px H _ _ h hP hD hS (lv_sub hl [1, 2, 3, 0] rfl)
        intro v3_12 px_12 H locs ls h hP hD hS hl
        obtain ⟨x2_13, ex2_13⟩ : ∃ y : Int32, y = v2 + 4 := ⟨_, rfl⟩
        have h := h x2_13 ex2_13
        refine lv_iinc (v := x2_13) (lv' := [(2, .int x2_13), (0, .ref a_pi), (1, .int v1), (3, .int v3_12)]) hx hb dX3_smoothEdges_91 hl (k := 2) rfl (by rw [ex2_13]; rfl) (by decide) rfl (fun ls hl => ?_)
        refine lv_goto (tgt := 50) hx hb dX3_smoothEdges_94 (by decide) ?_
        exact ih x2_13 px_12 H _ _ h hP hD hS (lv_sub hl [1, 2, 0] rfl)
  refine hL_14 v1 _ ?_ n_14 4 px_7 H _ _ h hP hD hS (lv_sub hl [1, 2, 0] rfl)
  intro v2_14 px_14 H locs ls h hP hD hS hl
  exact hret (px_14) _ _ _ _ dX3_smoothEdges_97 h hP hD hS
abbrev wd_pl_plm_pll (cI cB : ClassId) (a_pl a_plm a_pll : Nat) (la : Int32) (ld : Int32) (lq : Int32) (lz : Int32) (lm : (Nat → Int32)) (lv : (Nat → Int32)) : va_W := [(a_pl, .inr (4, [.ref a_plm, .ref a_pll, .int la, .int ld, .int lq, .int lz])), (a_plm, .inl (cI, 64, .inl lm)), (a_pll, .inl (cI, 1024, .inl lv))]
def wl_X4_clear_22 (K : Int32 → Int32 → Int32 → Int32 → (Nat → Int32) → (Nat → Int32) → Prop) (X : Int32 → (Nat → Int32) → Prop) : Nat → Int32 → (Nat → Int32) → Prop
  | 0, _, _ => False
  | n + 1, v3, lm => ((64 ≤ v3 → X v3 lm) ∧ (¬ 64 ≤ v3 → vp_in v3 64 ∧ ∀ x3_8 : Int32, x3_8 = v3 + 1 → wl_X4_clear_22  K X n x3_8 (jup lm v3 (-1))))
def wl_X4_clear_46 (K : Int32 → Int32 → Int32 → Int32 → (Nat → Int32) → (Nat → Int32) → Prop) (X : Int32 → (Nat → Int32) → Prop) : Nat → Int32 → (Nat → Int32) → Prop
  | 0, _, _ => False
  | n + 1, v3, lv => ((1024 ≤ v3 → X v3 lv) ∧ (¬ 1024 ≤ v3 → vp_in v3 1024 ∧ ∀ x3_13 : Int32, x3_13 = v3 + 1 → wl_X4_clear_46  K X n x3_13 (jup lv v3 0)))
def wp_X4_clear (la : Int32) (ld : Int32) (lq : Int32) (lz : Int32) (lm : (Nat → Int32)) (lv : (Nat → Int32)) (v1 v2 : Int32) (K : Int32 → Int32 → Int32 → Int32 → (Nat → Int32) → (Nat → Int32) → Prop) : Prop := ∃ k : Nat, wl_X4_clear_22  K (fun (v3_9 : Int32) (lm_9 : (Nat → Int32)) => ∃ k : Nat, wl_X4_clear_46  K (fun (v3_14 : Int32) (lv_14 : (Nat → Int32)) => K v1 v2 0 0 lm_9 lv_14) k 0 lv) k 0 lm
abbrev jw_X4_clear : List Cond := .code yX4_clear cX4_clear 4 none :: jmAll
abbrev rmX4_clear : Room := { frames := 0, cells := 0, slots := 0, locals := 0 }
set_option maxHeartbeats 4000000 in
set_option maxRecDepth 100000 in
theorem c_X4_clear (l : Launch) (D : va_G) (cI cB : ClassId) (tt : Nat × Nat × Nat) (a_pl a_plm a_pll : Nat) (sz : Nat) (la : Int32) (ld : Int32) (lq : Int32) (lz : Int32) (lm : (Nat → Int32)) (lv : (Nat → Int32)) (v1 v2 : Int32) {K : Int32 → Int32 → Int32 → Int32 → (Nat → Int32) → (Nat → Int32) → Prop} (h : wp_X4_clear la ld lq lz lm lv v1 v2 K) : Met l yX4_clear jw_X4_clear rmX4_clear (va_Pc [.ref a_pl, .int v1, .int v2] (jm_Pre D cI cB tt (wd_pl_plm_pll cI cB a_pl a_plm a_pll la ld lq lz lm lv) sz)) (va_Qv (fun (u : Int32 × Int32 × Int32 × Int32 × (Nat → Int32) × (Nat → Int32)) => pr6 K u) (jm_Post D cI cB (wd_pl_plm_pll cI cB a_pl a_plm a_pll la ld lq lz lm lv) sz (fun (u : Int32 × Int32 × Int32 × Int32 × (Nat → Int32) × (Nat → Int32)) => wd_pl_plm_pll cI cB a_pl a_plm a_pll u.1 u.2.1 u.2.2.1 u.2.2.2.1 u.2.2.2.2.1 u.2.2.2.2.2)) (va_A (wd_pl_plm_pll cI cB a_pl a_plm a_pll la ld lq lz lm lv) sz)) 0 0 (va_A (wd_pl_plm_pll cI cB a_pl a_plm a_pll la ld lq lz lm lv) sz) := by
  refine jm_metV (by decide +kernel) rfl rfl (Nat.le_of_ble_eq_true rfl) ?_
  intro p e s m args below meth c A Q ls C0 hP hD hl hret
  obtain ⟨hx, hb, hml, hr, hown, hts, hlocks, hA, hK, hE⟩ := C0
  have hS : va_S A s.heap s.heap [] := va_S.rf
  have hl : lv_has ls 4 [(0, .ref a_pl), (1, .int v1), (2, .int v2)] := hl
  unfold wp_X4_clear at h
  have hP : va_P D vwCl [(a_pl, .inr (4, [.ref a_plm, .ref a_pll, .int la, .int ld, .int lq, .int lz])), (a_plm, .inl (cI, 64, .inl lm)), (a_pll, .inl (cI, 1024, .inl lv))] s.heap := hP
  have hD : va_D A [(a_pl, .inr (4, [.ref a_plm, .ref a_pll, .int la, .int ld, .int lq, .int lz])), (a_plm, .inl (cI, 64, .inl lm)), (a_pll, .inl (cI, 1024, .inl lv))] := hD
  have iX4 : ∀ w ∈ wsX40, w ∈ jw_X4_clear := fun w h => List.mem_cons_of_mem _ (jm_iX4 w h)
  have lk15 := hts (.fieldLink RX4 15 "IntraMill$Plan" "levels" "[I") (List.mem_cons_of_mem _ mw_228)
  have lk18 := hts (.fieldLink RX4 18 "IntraMill$Plan" "across" "I") (List.mem_cons_of_mem _ mw_233)
  have lk22 := hts (.fieldLink RX4 22 "IntraMill$Plan" "down" "I") (List.mem_cons_of_mem _ mw_236)
  have lk25 := hts (.fieldLink RX4 25 "IntraMill$Plan" "qp" "I") (List.mem_cons_of_mem _ mw_239)
  have lk28 := hts (.fieldLink RX4 28 "IntraMill$Plan" "smooth" "Z") (List.mem_cons_of_mem _ mw_244)
  have lk9 := hts (.fieldLink RX4 9 "IntraMill$Plan" "modes" "[I") (List.mem_cons_of_mem _ mw_223)
  refine lv_aload_n hx hb dX4_clear_0 rfl (lv_at hl 0 rfl) ?_
  refine lv_iload_n hx hb dX4_clear_1 rfl (lv_at hl 1 rfl) ?_
  refine va_put (D := D) (ci := 4) (v := .int v1) (ty := .int) (C := RX4) (T := TX4) (N := 6) hx hb hts iX4 tyX4 tyX4_ok nmX4 hown hK hP hD hS 0 rfl rfl 2 (by decide) lk18 (fun _ h9 => h9) rfl (by decide +kernel) rfl rfl (Nat.le_of_ble_eq_true rfl) dX4_clear_2 (fun H_1 locs hP hD hS => ?_)
  have hP : va_P D vwCl [(a_pl, .inr (4, [.ref a_plm, .ref a_pll, .int v1, .int ld, .int lq, .int lz])), (a_plm, .inl (cI, 64, .inl lm)), (a_pll, .inl (cI, 1024, .inl lv))] H_1 := hP
  have hD : va_D A [(a_pl, .inr (4, [.ref a_plm, .ref a_pll, .int v1, .int ld, .int lq, .int lz])), (a_plm, .inl (cI, 64, .inl lm)), (a_pll, .inl (cI, 1024, .inl lv))] := hD
  refine lv_aload_n hx hb dX4_clear_5 rfl (lv_at hl 0 rfl) ?_
  refine lv_iload_n hx hb dX4_clear_6 rfl (lv_at hl 2 rfl) ?_
  refine va_put (D := D) (ci := 4) (v := .int v2) (ty := .int) (C := RX4) (T := TX4) (N := 6) hx hb hts iX4 tyX4 tyX4_ok nmX4 hown hK hP hD hS 0 rfl rfl 3 (by decide) lk22 (fun _ h9 => h9) rfl (by decide +kernel) rfl rfl (Nat.le_of_ble_eq_true rfl) dX4_clear_7 (fun H_2 locs hP hD hS => ?_)
  have hP : va_P D vwCl [(a_pl, .inr (4, [.ref a_plm, .ref a_pll, .int v1, .int v2, .int lq, .int lz])), (a_plm, .inl (cI, 64, .inl lm)), (a_pll, .inl (cI, 1024, .inl lv))] H_2 := hP
  have hD : va_D A [(a_pl, .inr (4, [.ref a_plm, .ref a_pll, .int v1, .int v2, .int lq, .int lz])), (a_plm, .inl (cI, 64, .inl lm)), (a_pll, .inl (cI, 1024, .inl lv))] := hD
  refine lv_aload_n hx hb dX4_clear_10 rfl (lv_at hl 0 rfl) ?_
  refine lv_iconst (v := 0) hx hb dX4_clear_11 (by decide) ?_
  refine va_put (D := D) (ci := 4) (v := .int 0) (ty := .int) (C := RX4) (T := TX4) (N := 6) hx hb hts iX4 tyX4 tyX4_ok nmX4 hown hK hP hD hS 0 rfl rfl 4 (by decide) lk25 (fun _ h9 => h9) rfl (by decide +kernel) rfl rfl (Nat.le_of_ble_eq_true rfl) dX4_clear_12 (fun H_3 locs hP hD hS => ?_)
  have hP : va_P D vwCl [(a_pl, .inr (4, [.ref a_plm, .ref a_pll, .int v1, .int v2, .int 0, .int lz])), (a_plm, .inl (cI, 64, .inl lm)), (a_pll, .inl (cI, 1024, .inl lv))] H_3 := hP
  have hD : va_D A [(a_pl, .inr (4, [.ref a_plm, .ref a_pll, .int v1, .int v2, .int 0, .int lz])), (a_plm, .inl (cI, 64, .inl lm)), (a_pll, .inl (cI, 1024, .inl lv))] := hD
  refine lv_aload_n hx hb dX4_clear_15 rfl (lv_at hl 0 rfl) ?_
  refine lv_iconst (v := 0) hx hb dX4_clear_16 (by decide) ?_
  refine va_put (D := D) (ci := 4) (v := .int 0) (ty := .boolean) (C := RX4) (T := TX4) (N := 6) hx hb hts iX4 tyX4 tyX4_ok nmX4 hown hK hP hD hS 0 rfl rfl 5 (by decide) lk28 (fun _ h9 => h9) rfl (by decide +kernel) (by decide) (by decide) (Nat.le_of_ble_eq_true rfl) dX4_clear_17 (fun H_4 locs hP hD hS => ?_)
  have hP : va_P D vwCl [(a_pl, .inr (4, [.ref a_plm, .ref a_pll, .int v1, .int v2, .int 0, .int 0])), (a_plm, .inl (cI, 64, .inl lm)), (a_pll, .inl (cI, 1024, .inl lv))] H_4 := hP
  have hD : va_D A [(a_pl, .inr (4, [.ref a_plm, .ref a_pll, .int v1, .int v2, .int 0, .int 0])), (a_plm, .inl (cI, 64, .inl lm)), (a_pll, .inl (cI, 1024, .inl lv))] := hD
  refine lv_iconst (v := 0) hx hb dX4_clear_20 (by decide) ?_
  refine lv_istore_n (lv' := [(3, .int 0), (0, .ref a_pl), (1, .int v1), (2, .int v2)]) hx hb dX4_clear_21 rfl hl (by decide) rfl (fun ls hl => ?_)
  obtain ⟨n_9, h⟩ := h
  have hL_9 : ∀ (v1 : Int32) (v2 : Int32) (la : Int32) (ld : Int32) (lq : Int32) (lz : Int32) (lv : (Nat → Int32)) (X : Int32 → (Nat → Int32) → Prop), (∀ (v3 : Int32) (lm : (Nat → Int32)), ∀ (H : Heap) (locs : List Loc) (ls : Array Slot), X v3 lm → va_P D vwCl [(a_pl, .inr (4, [.ref a_plm, .ref a_pll, .int la, .int ld, .int lq, .int lz])), (a_plm, .inl (cI, 64, .inl lm)), (a_pll, .inl (cI, 1024, .inl lv))] H → va_D A [(a_pl, .inr (4, [.ref a_plm, .ref a_pll, .int la, .int ld, .int lq, .int lz])), (a_plm, .inl (cI, 64, .inl lm)), (a_pll, .inl (cI, 1024, .inl lv))] → va_S A s.heap H locs → lv_has ls 4 [(0, .ref a_pl), (1, .int v1), (2, .int v2), (3, .int v3)] → W p l e rmX4_clear s m args below meth c H locs 0 0 Q (F0 m 44 ls [])) → ∀ (n : Nat) (v3 : Int32) (lm : (Nat → Int32)), ∀ (H : Heap) (locs : List Loc) (ls : Array Slot), wl_X4_clear_22  K X n v3 lm → va_P D vwCl [(a_pl, .inr (4, [.ref a_plm, .ref a_pll, .int la, .int ld, .int lq, .int lz])), (a_plm, .inl (cI, 64, .inl lm)), (a_pll, .inl (cI, 1024, .inl lv))] H → va_D A [(a_pl, .inr (4, [.ref a_plm, .ref a_pll, .int la, .int ld, .int lq, .int lz])), (a_plm, .inl (cI, 64, .inl lm)), (a_pll, .inl (cI, 1024, .inl lv))] → va_S A s.heap H locs → lv_has ls 4 [(0, .ref a_pl), (1, .int v1), (2, .int v2), (3, .int v3)] → W p l e rmX4_clear s m args below meth c H locs 0 0 Q (F0 m 22 ls []) := by
    intro v1 v2 la ld lq lz lv X hX n
    induction n with
    | zero => intro v3 lm H locs ls h; rw [wl_X4_clear_22] at h; exact h.elim
    | succ n ih =>
      intro v3 lm H locs ls h hP hD hS hl
      rw [wl_X4_clear_22] at h
      refine lv_iload_n hx hb dX4_clear_22 rfl (lv_at hl 3 rfl) ?_
      refine lv_aload_n hx hb dX4_clear_23 rfl (lv_at hl 0 rfl) ?_
      refine va_get (D := D) (ci := 4) (v := .ref a_plm) (C := RX4) (T := TX4) (N := 6) hx hb hts iX4 hown hK hP 0 rfl rfl 0 (by decide) lk9 (fun _ h9 => h9) rfl dX4_clear_24 ?_
      refine va_alen hx hb hK hP 1 0 rfl rfl (v := 64) rfl dX4_clear_27 ?_
      refine lv_icmp_ge (tgt := 44) hx hb dX4_clear_28 (by decide) (fun c_5 => ?_) (fun c_5 => ?_)
      · have h := h.1 c_5
        exact hX v3 lm H _ _ h hP hD hS (lv_sub hl [0, 1, 2, 3] rfl)
      · have h := h.2 c_5
        refine lv_aload_n hx hb dX4_clear_31 rfl (lv_at hl 0 rfl) ?_
        refine va_get (D := D) (ci := 4) (v := .ref a_plm) (C := RX4) (T := TX4) (N := 6) hx hb hts iX4 hown hK hP 0 rfl rfl 0 (by decide) lk9 (fun _ h9 => h9) rfl dX4_clear_32 ?_
        refine lv_iload_n hx hb dX4_clear_35 rfl (lv_at hl 3 rfl) ?_
        refine lv_iconst (v := (-1)) hx hb dX4_clear_36 (by decide) ?_
        obtain ⟨hi_6, h⟩ := h
        refine va_iast hx hb hK hP hD hS 1 0 rfl rfl hi_6 dX4_clear_37 (fun H_7 locs hP hD hS => ?_)
        have hP : va_P D vwCl [(a_pl, .inr (4, [.ref a_plm, .ref a_pll, .int la, .int ld, .int lq, .int lz])), (a_plm, .inl (cI, 64, .inl (jup lm v3 (-1)))), (a_pll, .inl (cI, 1024, .inl lv))] H_7 := hP
        have hD : va_D A [(a_pl, .inr (4, [.ref a_plm, .ref a_pll, .int la, .int ld, .int lq, .int lz])), (a_plm, .inl (cI, 64, .inl (jup lm v3 (-1)))), (a_pll, .inl (cI, 1024, .inl lv))] := hD
        obtain ⟨x3_8, ex3_8⟩ : ∃ y : Int32, y = v3 + 1 := ⟨_, rfl⟩
        have h := h x3_8 ex3_8
        refine lv_iinc (v := x3_8) (lv' := [(3, .int x3_8), (0, .ref a_pl), (1, .int v1), (2, .int v2)]) hx hb dX4_clear_38 hl (k := 3) rfl (by rw [ex3_8]; rfl) (by decide) rfl (fun ls hl => ?_)
        refine lv_goto (tgt := 22) hx hb dX4_clear_41 (by decide) ?_
        exact ih x3_8 (jup lm v3 (-1)) H_7 _ _ h hP hD hS (lv_sub hl [1, 2, 3, 0] rfl)
  refine hL_9 v1 v2 v1 v2 0 0 lv _ ?_ n_9 0 lm H_4 _ _ h hP hD hS (lv_sub hl [1, 2, 3, 0] rfl)
  intro v3_9 lm_9 H locs ls h hP hD hS hl
  refine lv_iconst (v := 0) hx hb dX4_clear_44 (by decide) ?_
  refine lv_istore_n (lv' := [(3, .int 0), (0, .ref a_pl), (1, .int v1), (2, .int v2)]) hx hb dX4_clear_45 rfl hl (by decide) rfl (fun ls hl => ?_)
  obtain ⟨n_14, h⟩ := h
  have hL_14 : ∀ (v1 : Int32) (v2 : Int32) (la : Int32) (ld : Int32) (lq : Int32) (lz : Int32) (lm : (Nat → Int32)) (X : Int32 → (Nat → Int32) → Prop), (∀ (v3 : Int32) (lv : (Nat → Int32)), ∀ (H : Heap) (locs : List Loc) (ls : Array Slot), X v3 lv → va_P D vwCl [(a_pl, .inr (4, [.ref a_plm, .ref a_pll, .int la, .int ld, .int lq, .int lz])), (a_plm, .inl (cI, 64, .inl lm)), (a_pll, .inl (cI, 1024, .inl lv))] H → va_D A [(a_pl, .inr (4, [.ref a_plm, .ref a_pll, .int la, .int ld, .int lq, .int lz])), (a_plm, .inl (cI, 64, .inl lm)), (a_pll, .inl (cI, 1024, .inl lv))] → va_S A s.heap H locs → lv_has ls 4 [(0, .ref a_pl), (1, .int v1), (2, .int v2), (3, .int v3)] → W p l e rmX4_clear s m args below meth c H locs 0 0 Q (F0 m 68 ls [])) → ∀ (n : Nat) (v3 : Int32) (lv : (Nat → Int32)), ∀ (H : Heap) (locs : List Loc) (ls : Array Slot), wl_X4_clear_46  K X n v3 lv → va_P D vwCl [(a_pl, .inr (4, [.ref a_plm, .ref a_pll, .int la, .int ld, .int lq, .int lz])), (a_plm, .inl (cI, 64, .inl lm)), (a_pll, .inl (cI, 1024, .inl lv))] H → va_D A [(a_pl, .inr (4, [.ref a_plm, .ref a_pll, .int la, .int ld, .int lq, .int lz])), (a_plm, .inl (cI, 64, .inl lm)), (a_pll, .inl (cI, 1024, .inl lv))] → va_S A s.heap H locs → lv_has ls 4 [(0, .ref a_pl), (1, .int v1), (2, .int v2), (3, .int v3)] → W p l e rmX4_clear s m args below meth c H locs 0 0 Q (F0 m 46 ls []) := by
    intro v1 v2 la ld lq lz lm X hX n
    induction n with
    | zero => intro v3 lv H locs ls h; rw [wl_X4_clear_46] at h; exact h.elim
    | succ n ih =>
      intro v3 lv H locs ls h hP hD hS hl
      rw [wl_X4_clear_46] at h
      refine lv_iload_n hx hb dX4_clear_46 rfl (lv_at hl 3 rfl) ?_
      refine lv_aload_n hx hb dX4_clear_47 rfl (lv_at hl 0 rfl) ?_
      refine va_get (D := D) (ci := 4) (v := .ref a_pll) (C := RX4) (T := TX4) (N := 6) hx hb hts iX4 hown hK hP 0 rfl rfl 1 (by decide) lk15 (fun _ h9 => h9) rfl dX4_clear_48 ?_
      refine va_alen hx hb hK hP 2 0 rfl rfl (v := 1024) rfl dX4_clear_51 ?_
      refine lv_icmp_ge (tgt := 68) hx hb dX4_clear_52 (by decide) (fun c_10 => ?_) (fun c_10 => ?_)
      · have h := h.1 c_10
        exact hX v3 lv H _ _ h hP hD hS (lv_sub hl [0, 1, 2, 3] rfl)
      · have h := h.2 c_10
        refine lv_aload_n hx hb dX4_clear_55 rfl (lv_at hl 0 rfl) ?_
        refine va_get (D := D) (ci := 4) (v := .ref a_pll) (C := RX4) (T := TX4) (N := 6) hx hb hts iX4 hown hK hP 0 rfl rfl 1 (by decide) lk15 (fun _ h9 => h9) rfl dX4_clear_56 ?_
        refine lv_iload_n hx hb dX4_clear_59 rfl (lv_at hl 3 rfl) ?_
        refine lv_iconst (v := 0) hx hb dX4_clear_60 (by decide) ?_
        obtain ⟨hi_11, h⟩ := h
        refine va_iast hx hb hK hP hD hS 2 0 rfl rfl hi_11 dX4_clear_61 (fun H_12 locs hP hD hS => ?_)
        have hP : va_P D vwCl [(a_pl, .inr (4, [.ref a_plm, .ref a_pll, .int la, .int ld, .int lq, .int lz])), (a_plm, .inl (cI, 64, .inl lm)), (a_pll, .inl (cI, 1024, .inl (jup lv v3 0)))] H_12 := hP
        have hD : va_D A [(a_pl, .inr (4, [.ref a_plm, .ref a_pll, .int la, .int ld, .int lq, .int lz])), (a_plm, .inl (cI, 64, .inl lm)), (a_pll, .inl (cI, 1024, .inl (jup lv v3 0)))] := hD
        obtain ⟨x3_13, ex3_13⟩ : ∃ y : Int32, y = v3 + 1 := ⟨_, rfl⟩
        have h := h x3_13 ex3_13
        refine lv_iinc (v := x3_13) (lv' := [(3, .int x3_13), (0, .ref a_pl), (1, .int v1), (2, .int v2)]) hx hb dX4_clear_62 hl (k := 3) rfl (by rw [ex3_13]; rfl) (by decide) rfl (fun ls hl => ?_)
        refine lv_goto (tgt := 46) hx hb dX4_clear_65 (by decide) ?_
        exact ih x3_13 (jup lv v3 0) H_12 _ _ h hP hD hS (lv_sub hl [1, 2, 3, 0] rfl)
  refine hL_14 v1 v2 v1 v2 0 0 lm_9 _ ?_ n_14 0 lv H _ _ h hP hD hS (lv_sub hl [1, 2, 3, 0] rfl)
  intro v3_14 lv_14 H locs ls h hP hD hS hl
  exact hret (v1, v2, 0, 0, lm_9, lv_14) _ _ _ _ dX4_clear_68 h hP hD hS
def wp_X4_blocks (la : Int32) (ld : Int32) (K : Int32 → Prop) : Prop := K (la * ld)
abbrev jw_X4_blocks : List Cond := .code yX4_blocks cX4_blocks 1 (some .int) :: jmAll
abbrev rmX4_blocks : Room := { frames := 0, cells := 0, slots := 0, locals := 0 }
set_option maxHeartbeats 4000000 in
set_option maxRecDepth 100000 in
theorem c_X4_blocks (l : Launch) (D : va_G) (cI cB : ClassId) (tt : Nat × Nat × Nat) (a_pl a_plm a_pll : Nat) (sz : Nat) (la : Int32) (ld : Int32) (lq : Int32) (lz : Int32) (lm : (Nat → Int32)) (lv : (Nat → Int32)) {K : Int32 → Prop} (h : wp_X4_blocks la ld K) : Met l yX4_blocks jw_X4_blocks rmX4_blocks (va_Pc [.ref a_pl] (jm_Pre D cI cB tt (wd_pl_plm_pll cI cB a_pl a_plm a_pll la ld lq lz lm lv) sz)) (va_Qi (fun (r : Int32) (u : Unit) => K r) (jm_Post D cI cB (wd_pl_plm_pll cI cB a_pl a_plm a_pll la ld lq lz lm lv) sz (fun (u : Unit) => wd_pl_plm_pll cI cB a_pl a_plm a_pll la ld lq lz lm lv)) (va_A (wd_pl_plm_pll cI cB a_pl a_plm a_pll la ld lq lz lm lv) sz)) 0 0 (va_A (wd_pl_plm_pll cI cB a_pl a_plm a_pll la ld lq lz lm lv) sz) := by
  refine jm_metI (by decide +kernel) rfl rfl (Nat.le_of_ble_eq_true rfl) ?_
  intro p e s m args below meth c A Q ls C0 hP hD hl hret
  obtain ⟨hx, hb, hml, hr, hown, hts, hlocks, hA, hK, hE⟩ := C0
  have hS : va_S A s.heap s.heap [] := va_S.rf
  have hl : lv_has ls 1 [(0, .ref a_pl)] := hl
  unfold wp_X4_blocks at h
  have hP : va_P D vwCl [(a_pl, .inr (4, [.ref a_plm, .ref a_pll, .int la, .int ld, .int lq, .int lz])), (a_plm, .inl (cI, 64, .inl lm)), (a_pll, .inl (cI, 1024, .inl lv))] s.heap := hP
  have hD : va_D A [(a_pl, .inr (4, [.ref a_plm, .ref a_pll, .int la, .int ld, .int lq, .int lz])), (a_plm, .inl (cI, 64, .inl lm)), (a_pll, .inl (cI, 1024, .inl lv))] := hD
  have iX4 : ∀ w ∈ wsX40, w ∈ jw_X4_blocks := fun w h => List.mem_cons_of_mem _ (jm_iX4 w h)
  have lk18 := hts (.fieldLink RX4 18 "IntraMill$Plan" "across" "I") (List.mem_cons_of_mem _ mw_233)
  have lk22 := hts (.fieldLink RX4 22 "IntraMill$Plan" "down" "I") (List.mem_cons_of_mem _ mw_236)
  refine lv_aload_n hx hb dX4_blocks_0 rfl (lv_at hl 0 rfl) ?_
  refine va_get (D := D) (ci := 4) (v := .int la) (C := RX4) (T := TX4) (N := 6) hx hb hts iX4 hown hK hP 0 rfl rfl 2 (by decide) lk18 (fun _ h9 => h9) rfl dX4_blocks_1 ?_
  refine lv_aload_n hx hb dX4_blocks_4 rfl (lv_at hl 0 rfl) ?_
  refine va_get (D := D) (ci := 4) (v := .int ld) (C := RX4) (T := TX4) (N := 6) hx hb hts iX4 hown hK hP 0 rfl rfl 3 (by decide) lk22 (fun _ h9 => h9) rfl dX4_blocks_5 ?_
  refine lv_imul hx hb dX4_blocks_8 ?_
  exact hret (la * ld) () _ _ _ _ dX4_blocks_9 (vp_nar_int _) h hP hD hS
def wp_X4_hasAbove (la : Int32) (v1 : Int32) (K : Int32 → Prop) : Prop := ((v1 < la → K 0) ∧ (¬ v1 < la → K 1))
abbrev jw_X4_hasAbove : List Cond := .code yX4_hasAbove cX4_hasAbove 2 (some .boolean) :: jmAll
abbrev rmX4_hasAbove : Room := { frames := 0, cells := 0, slots := 0, locals := 0 }
set_option maxHeartbeats 4000000 in
set_option maxRecDepth 100000 in
theorem c_X4_hasAbove (l : Launch) (D : va_G) (cI cB : ClassId) (tt : Nat × Nat × Nat) (a_pl a_plm a_pll : Nat) (sz : Nat) (la : Int32) (ld : Int32) (lq : Int32) (lz : Int32) (lm : (Nat → Int32)) (lv : (Nat → Int32)) (v1 : Int32) {K : Int32 → Prop} (h : wp_X4_hasAbove la v1 K) : Met l yX4_hasAbove jw_X4_hasAbove rmX4_hasAbove (va_Pc [.ref a_pl, .int v1] (jm_Pre D cI cB tt (wd_pl_plm_pll cI cB a_pl a_plm a_pll la ld lq lz lm lv) sz)) (va_Qi (fun (r : Int32) (u : Unit) => K r) (jm_Post D cI cB (wd_pl_plm_pll cI cB a_pl a_plm a_pll la ld lq lz lm lv) sz (fun (u : Unit) => wd_pl_plm_pll cI cB a_pl a_plm a_pll la ld lq lz lm lv)) (va_A (wd_pl_plm_pll cI cB a_pl a_plm a_pll la ld lq lz lm lv) sz)) 0 0 (va_A (wd_pl_plm_pll cI cB a_pl a_plm a_pll la ld lq lz lm lv) sz) := by
  refine jm_metI (by decide +kernel) rfl rfl (Nat.le_of_ble_eq_true rfl) ?_
  intro p e s m args below meth c A Q ls C0 hP hD hl hret
  obtain ⟨hx, hb, hml, hr, hown, hts, hlocks, hA, hK, hE⟩ := C0
  have hS : va_S A s.heap s.heap [] := va_S.rf
  have hl : lv_has ls 2 [(0, .ref a_pl), (1, .int v1)] := hl
  unfold wp_X4_hasAbove at h
  have hP : va_P D vwCl [(a_pl, .inr (4, [.ref a_plm, .ref a_pll, .int la, .int ld, .int lq, .int lz])), (a_plm, .inl (cI, 64, .inl lm)), (a_pll, .inl (cI, 1024, .inl lv))] s.heap := hP
  have hD : va_D A [(a_pl, .inr (4, [.ref a_plm, .ref a_pll, .int la, .int ld, .int lq, .int lz])), (a_plm, .inl (cI, 64, .inl lm)), (a_pll, .inl (cI, 1024, .inl lv))] := hD
  have iX4 : ∀ w ∈ wsX40, w ∈ jw_X4_hasAbove := fun w h => List.mem_cons_of_mem _ (jm_iX4 w h)
  have lk18 := hts (.fieldLink RX4 18 "IntraMill$Plan" "across" "I") (List.mem_cons_of_mem _ mw_233)
  refine lv_iload_n hx hb dX4_hasAbove_0 rfl (lv_at hl 1 rfl) ?_
  refine lv_aload_n hx hb dX4_hasAbove_1 rfl (lv_at hl 0 rfl) ?_
  refine va_get (D := D) (ci := 4) (v := .int la) (C := RX4) (T := TX4) (N := 6) hx hb hts iX4 hown hK hP 0 rfl rfl 2 (by decide) lk18 (fun _ h9 => h9) rfl dX4_hasAbove_2 ?_
  refine lv_icmp_lt (tgt := 12) hx hb dX4_hasAbove_5 (by decide) (fun c_1 => ?_) (fun c_1 => ?_)
  · have h := h.1 c_1
    refine lv_iconst (v := 0) hx hb dX4_hasAbove_12 (by decide) ?_
    exact hret 0 () _ _ _ _ dX4_hasAbove_13 (by decide) h hP hD hS
  · have h := h.2 c_1
    refine lv_iconst (v := 1) hx hb dX4_hasAbove_8 (by decide) ?_
    refine lv_goto (tgt := 13) hx hb dX4_hasAbove_9 (by decide) ?_
    exact hret 1 () _ _ _ _ dX4_hasAbove_13 (by decide) h hP hD hS
def wp_X4_hasLeft (la : Int32) (v1 : Int32) (K : Int32 → Prop) : Prop := ¬ la = 0 ∧ (((jrem v1 la) ≤ 0 → K 0) ∧ (¬ (jrem v1 la) ≤ 0 → K 1))
abbrev jw_X4_hasLeft : List Cond := .code yX4_hasLeft cX4_hasLeft 2 (some .boolean) :: jmAll
abbrev rmX4_hasLeft : Room := { frames := 0, cells := 0, slots := 0, locals := 0 }
set_option maxHeartbeats 4000000 in
set_option maxRecDepth 100000 in
theorem c_X4_hasLeft (l : Launch) (D : va_G) (cI cB : ClassId) (tt : Nat × Nat × Nat) (a_pl a_plm a_pll : Nat) (sz : Nat) (la : Int32) (ld : Int32) (lq : Int32) (lz : Int32) (lm : (Nat → Int32)) (lv : (Nat → Int32)) (v1 : Int32) {K : Int32 → Prop} (h : wp_X4_hasLeft la v1 K) : Met l yX4_hasLeft jw_X4_hasLeft rmX4_hasLeft (va_Pc [.ref a_pl, .int v1] (jm_Pre D cI cB tt (wd_pl_plm_pll cI cB a_pl a_plm a_pll la ld lq lz lm lv) sz)) (va_Qi (fun (r : Int32) (u : Unit) => K r) (jm_Post D cI cB (wd_pl_plm_pll cI cB a_pl a_plm a_pll la ld lq lz lm lv) sz (fun (u : Unit) => wd_pl_plm_pll cI cB a_pl a_plm a_pll la ld lq lz lm lv)) (va_A (wd_pl_plm_pll cI cB a_pl a_plm a_pll la ld lq lz lm lv) sz)) 0 0 (va_A (wd_pl_plm_pll cI cB a_pl a_plm a_pll la ld lq lz lm lv) sz) := by
  refine jm_metI (by decide +kernel) rfl rfl (Nat.le_of_ble_eq_true rfl) ?_
  intro p e s m args below meth c A Q ls C0 hP hD hl hret
  obtain ⟨hx, hb, hml, hr, hown, hts, hlocks, hA, hK, hE⟩ := C0
  have hS : va_S A s.heap s.heap [] := va_S.rf
  have hl : lv_has ls 2 [(0, .ref a_pl), (1, .int v1)] := hl
  unfold wp_X4_hasLeft at h
  have hP : va_P D vwCl [(a_pl, .inr (4, [.ref a_plm, .ref a_pll, .int la, .int ld, .int lq, .int lz])), (a_plm, .inl (cI, 64, .inl lm)), (a_pll, .inl (cI, 1024, .inl lv))] s.heap := hP
  have hD : va_D A [(a_pl, .inr (4, [.ref a_plm, .ref a_pll, .int la, .int ld, .int lq, .int lz])), (a_plm, .inl (cI, 64, .inl lm)), (a_pll, .inl (cI, 1024, .inl lv))] := hD
  have iX4 : ∀ w ∈ wsX40, w ∈ jw_X4_hasLeft := fun w h => List.mem_cons_of_mem _ (jm_iX4 w h)
  have lk18 := hts (.fieldLink RX4 18 "IntraMill$Plan" "across" "I") (List.mem_cons_of_mem _ mw_233)
  refine lv_iload_n hx hb dX4_hasLeft_0 rfl (lv_at hl 1 rfl) ?_
  refine lv_aload_n hx hb dX4_hasLeft_1 rfl (lv_at hl 0 rfl) ?_
  refine va_get (D := D) (ci := 4) (v := .int la) (C := RX4) (T := TX4) (N := 6) hx hb hts iX4 hown hK hP 0 rfl rfl 2 (by decide) lk18 (fun _ h9 => h9) rfl dX4_hasLeft_2 ?_
  obtain ⟨hz_1, h⟩ := h
  refine lv_irem hx hb dX4_hasLeft_5 hz_1 ?_
  refine lv_if_le (tgt := 13) hx hb dX4_hasLeft_6 (by decide) (fun c_2 => ?_) (fun c_2 => ?_)
  · have h := h.1 c_2
    refine lv_iconst (v := 0) hx hb dX4_hasLeft_13 (by decide) ?_
    exact hret 0 () _ _ _ _ dX4_hasLeft_14 (by decide) h hP hD hS
  · have h := h.2 c_2
    refine lv_iconst (v := 1) hx hb dX4_hasLeft_9 (by decide) ?_
    refine lv_goto (tgt := 14) hx hb dX4_hasLeft_10 (by decide) ?_
    exact hret 1 () _ _ _ _ dX4_hasLeft_14 (by decide) h hP hD hS
def wp_X4_likelyMode (la : Int32) (lm : (Nat → Int32)) (v1 : Int32) (K : Int32 → Prop) : Prop := wp_X4_hasAbove la v1 (fun (r_1 : Int32) => ((r_1 = 0 → K 2) ∧ (¬ r_1 = 0 → wp_X4_hasLeft la v1 (fun (r_3 : Int32) => ((r_3 = 0 → K 2) ∧ (¬ r_3 = 0 → vp_in (v1 - la) 64 ∧ vp_in (v1 - 1) 64 ∧ K (jmin (jat lm (v1 - la)) (jat lm (v1 - 1)))))))))
abbrev jw_X4_likelyMode : List Cond := .code yX4_likelyMode cX4_likelyMode 2 (some .int) :: jmAll
abbrev rmX4_likelyMode : Room := { frames := 1, cells := 0, slots := 0, locals := 21 }
set_option maxHeartbeats 4000000 in
set_option maxRecDepth 100000 in
theorem c_X4_likelyMode (l : Launch) (D : va_G) (cI cB : ClassId) (tt : Nat × Nat × Nat) (a_pl a_plm a_pll : Nat) (sz : Nat) (la : Int32) (ld : Int32) (lq : Int32) (lz : Int32) (lm : (Nat → Int32)) (lv : (Nat → Int32)) (v1 : Int32) {K : Int32 → Prop} (h : wp_X4_likelyMode la lm v1 K) : Met l yX4_likelyMode jw_X4_likelyMode rmX4_likelyMode (va_Pc [.ref a_pl, .int v1] (jm_Pre D cI cB tt (wd_pl_plm_pll cI cB a_pl a_plm a_pll la ld lq lz lm lv) sz)) (va_Qi (fun (r : Int32) (u : Unit) => K r) (jm_Post D cI cB (wd_pl_plm_pll cI cB a_pl a_plm a_pll la ld lq lz lm lv) sz (fun (u : Unit) => wd_pl_plm_pll cI cB a_pl a_plm a_pll la ld lq lz lm lv)) (va_A (wd_pl_plm_pll cI cB a_pl a_plm a_pll la ld lq lz lm lv) sz)) 0 0 (va_A (wd_pl_plm_pll cI cB a_pl a_plm a_pll la ld lq lz lm lv) sz) := by
  refine jm_metI (by decide +kernel) rfl rfl (Nat.le_of_ble_eq_true rfl) ?_
  intro p e s m args below meth c A Q ls C0 hP hD hl hret
  obtain ⟨hx, hb, hml, hr, hown, hts, hlocks, hA, hK, hE⟩ := C0
  have hS : va_S A s.heap s.heap [] := va_S.rf
  have hl : lv_has ls 2 [(0, .ref a_pl), (1, .int v1)] := hl
  unfold wp_X4_likelyMode at h
  have hP : va_P D vwCl [(a_pl, .inr (4, [.ref a_plm, .ref a_pll, .int la, .int ld, .int lq, .int lz])), (a_plm, .inl (cI, 64, .inl lm)), (a_pll, .inl (cI, 1024, .inl lv))] s.heap := hP
  have hD : va_D A [(a_pl, .inr (4, [.ref a_plm, .ref a_pll, .int la, .int ld, .int lq, .int lz])), (a_plm, .inl (cI, 64, .inl lm)), (a_pll, .inl (cI, 1024, .inl lv))] := hD
  have iX4 : ∀ w ∈ wsX40, w ∈ jw_X4_likelyMode := fun w h => List.mem_cons_of_mem _ (jm_iX4 w h)
  have lk18 := hts (.fieldLink RX4 18 "IntraMill$Plan" "across" "I") (List.mem_cons_of_mem _ mw_233)
  have lk9 := hts (.fieldLink RX4 9 "IntraMill$Plan" "modes" "[I") (List.mem_cons_of_mem _ mw_223)
  refine lv_aload_n hx hb dX4_likelyMode_0 rfl (lv_at hl 0 rfl) ?_
  refine lv_iload_n hx hb dX4_likelyMode_1 rfl (lv_at hl 1 rfl) ?_
  have hPc := hP.sub (ws' := [(a_pl, .inr (4, [.ref a_plm, .ref a_pll, .int la, .int ld, .int lq, .int lz])), (a_plm, .inl (cI, 64, .inl lm)), (a_pll, .inl (cI, 1024, .inl lv))]) [0, 1, 2] rfl
  have hDc := hD.sub (ws' := [(a_pl, .inr (4, [.ref a_plm, .ref a_pll, .int la, .int ld, .int lq, .int lz])), (a_plm, .inl (cI, 64, .inl lm)), (a_pll, .inl (cI, 1024, .inl lv))]) [0, 1, 2] (by decide) rfl
  have hFc := va_free (wc := [(a_pl, .inr (4, [.ref a_plm, .ref a_pll, .int la, .int ld, .int lq, .int lz])), (a_plm, .inl (cI, 64, .inl lm)), (a_pll, .inl (cI, 1024, .inl lv))]) hD hS hA [0, 1, 2] rfl
  refine jm_calli (wr := []) (va_runV (As := [.int v1]) (rest := []) ⟨hx, hb, hml, hown, hts⟩ (c_X4_hasAbove l D cI cB tt a_pl a_plm a_pll s.heap.size la ld lq lz lm lv v1 h) (cwV 1 hts (jm_gV mw_355 mw_356 mw_357 mw_64 mw_358) rfl rfl rfl (by decide +kernel) ⟨Nat.le_of_ble_eq_true rfl, Nat.le_of_ble_eq_true rfl⟩) ⟨jm_blind, va_recv hK hPc (ci := 4) (q0 := 0) rfl rfl, jm_pre hK hE hS hPc hDc hFc _⟩ rfl rfl hl.1 rfl (lv_room (Nat.le_of_ble_eq_true rfl)) dX4_likelyMode_2 ⟨Nat.zero_le _, Nat.zero_le _⟩) hS hP hD [0, 1, 2] [] rfl rfl (by decide) (by decide) hFc (fun r_1 u_1 H_1 locs hw hP hD hS => ?_)
  have h := hw
  have hP : va_P D vwCl [(a_pl, .inr (4, [.ref a_plm, .ref a_pll, .int la, .int ld, .int lq, .int lz])), (a_plm, .inl (cI, 64, .inl lm)), (a_pll, .inl (cI, 1024, .inl lv))] H_1 := hP.sub [0, 1, 2] rfl
  have hD : va_D A [(a_pl, .inr (4, [.ref a_plm, .ref a_pll, .int la, .int ld, .int lq, .int lz])), (a_plm, .inl (cI, 64, .inl lm)), (a_pll, .inl (cI, 1024, .inl lv))] := hD.sub [0, 1, 2] (by decide) rfl
  refine lv_if_eq (tgt := 16) hx hb dX4_likelyMode_5 (by decide) (fun c_2 => ?_) (fun c_2 => ?_)
  · have h := h.1 c_2
    refine lv_iconst (v := 2) hx hb dX4_likelyMode_16 (by decide) ?_
    exact hret 2 () _ _ _ _ dX4_likelyMode_17 (vp_nar_int _) h hP hD hS
  · have h := h.2 c_2
    refine lv_aload_n hx hb dX4_likelyMode_8 rfl (lv_at hl 0 rfl) ?_
    refine lv_iload_n hx hb dX4_likelyMode_9 rfl (lv_at hl 1 rfl) ?_
    have hPc := hP.sub (ws' := [(a_pl, .inr (4, [.ref a_plm, .ref a_pll, .int la, .int ld, .int lq, .int lz])), (a_plm, .inl (cI, 64, .inl lm)), (a_pll, .inl (cI, 1024, .inl lv))]) [0, 1, 2] rfl
    have hDc := hD.sub (ws' := [(a_pl, .inr (4, [.ref a_plm, .ref a_pll, .int la, .int ld, .int lq, .int lz])), (a_plm, .inl (cI, 64, .inl lm)), (a_pll, .inl (cI, 1024, .inl lv))]) [0, 1, 2] (by decide) rfl
    have hFc := va_free (wc := [(a_pl, .inr (4, [.ref a_plm, .ref a_pll, .int la, .int ld, .int lq, .int lz])), (a_plm, .inl (cI, 64, .inl lm)), (a_pll, .inl (cI, 1024, .inl lv))]) hD hS hA [0, 1, 2] rfl
    refine jm_calli (wr := []) (va_runV (As := [.int v1]) (rest := []) ⟨hx, hb, hml, hown, hts⟩ (c_X4_hasLeft l D cI cB tt a_pl a_plm a_pll H_1.size la ld lq lz lm lv v1 h) (cwV 1 hts (jm_gV mw_359 mw_360 mw_361 mw_64 mw_362) rfl rfl rfl (by decide +kernel) ⟨Nat.le_of_ble_eq_true rfl, Nat.le_of_ble_eq_true rfl⟩) ⟨jm_blind, va_recv hK hPc (ci := 4) (q0 := 0) rfl rfl, jm_pre hK hE hS hPc hDc hFc _⟩ rfl rfl hl.1 rfl (lv_room (Nat.le_of_ble_eq_true rfl)) dX4_likelyMode_10 ⟨Nat.zero_le _, Nat.zero_le _⟩) hS hP hD [0, 1, 2] [] rfl rfl (by decide) (by decide) hFc (fun r_3 u_3 H_3 locs hw hP hD hS => ?_)
    have h := hw
    have hP : va_P D vwCl [(a_pl, .inr (4, [.ref a_plm, .ref a_pll, .int la, .int ld, .int lq, .int lz])), (a_plm, .inl (cI, 64, .inl lm)), (a_pll, .inl (cI, 1024, .inl lv))] H_3 := hP.sub [0, 1, 2] rfl
    have hD : va_D A [(a_pl, .inr (4, [.ref a_plm, .ref a_pll, .int la, .int ld, .int lq, .int lz])), (a_plm, .inl (cI, 64, .inl lm)), (a_pll, .inl (cI, 1024, .inl lv))] := hD.sub [0, 1, 2] (by decide) rfl
    refine lv_if_ne (tgt := 18) hx hb dX4_likelyMode_13 (by decide) (fun c_4 => ?_) (fun c_4 => ?_)
    · have h := h.2 c_4
      refine lv_aload_n hx hb dX4_likelyMode_18 rfl (lv_at hl 0 rfl) ?_
      refine va_get (D := D) (ci := 4) (v := .ref a_plm) (C := RX4) (T := TX4) (N := 6) hx hb hts iX4 hown hK hP 0 rfl rfl 0 (by decide) lk9 (fun _ h9 => h9) rfl dX4_likelyMode_19 ?_
      refine lv_iload_n hx hb dX4_likelyMode_22 rfl (lv_at hl 1 rfl) ?_
      refine lv_aload_n hx hb dX4_likelyMode_23 rfl (lv_at hl 0 rfl) ?_
      refine va_get (D := D) (ci := 4) (v := .int la) (C := RX4) (T := TX4) (N := 6) hx hb hts iX4 hown hK hP 0 rfl rfl 2 (by decide) lk18 (fun _ h9 => h9) rfl dX4_likelyMode_24 ?_
      refine lv_isub hx hb dX4_likelyMode_27 ?_
      obtain ⟨hi_5, h⟩ := h
      refine va_iald hx hb hK hP 1 0 rfl rfl hi_5 dX4_likelyMode_28 ?_
      refine lv_aload_n hx hb dX4_likelyMode_29 rfl (lv_at hl 0 rfl) ?_
      refine va_get (D := D) (ci := 4) (v := .ref a_plm) (C := RX4) (T := TX4) (N := 6) hx hb hts iX4 hown hK hP 0 rfl rfl 0 (by decide) lk9 (fun _ h9 => h9) rfl dX4_likelyMode_30 ?_
      refine lv_iload_n hx hb dX4_likelyMode_33 rfl (lv_at hl 1 rfl) ?_
      refine lv_iconst (v := 1) hx hb dX4_likelyMode_34 (by decide) ?_
      refine lv_isub hx hb dX4_likelyMode_35 ?_
      obtain ⟨hi_6, h⟩ := h
      refine va_iald hx hb hK hP 1 0 rfl rfl hi_6 dX4_likelyMode_36 ?_
      refine va_mmin hx hb (hml.trans hl.1.symm) hown (hts (.methodLink RX4 39 Lib.Math.min.name) (List.mem_cons_of_mem _ mw_363)) (hts (.static Lib.Math.min.name) (List.mem_cons_of_mem _ mw_364)) (hts (.initialized "java/lang/Math") (List.mem_cons_of_mem _ mw_70)) (hts (.code Lib.Math.min.name Lib.Math.min.code 2 (some .int)) (List.mem_cons_of_mem _ mw_365)) (Nat.le_of_ble_eq_true rfl) (Nat.le_of_ble_eq_true rfl) (Nat.zero_le _) (Nat.zero_le _) dX4_likelyMode_37 ?_
      exact hret (jmin (jat lm (v1 - la)) (jat lm (v1 - 1))) () _ _ _ _ dX4_likelyMode_40 (vp_nar_int _) h hP hD hS
    · have h := h.1 c_4
      refine lv_iconst (v := 2) hx hb dX4_likelyMode_16 (by decide) ?_
      exact hret 2 () _ _ _ _ dX4_likelyMode_17 (vp_nar_int _) h hP hD hS
