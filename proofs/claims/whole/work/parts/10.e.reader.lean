abbrev wd_br_st_stb (cI cB : ClassId) (a_br a_st a_stb : Nat) (rn : Int32) (rf : Int32) (rp : Int32) (sc : Int32) (sb : (Nat → Int32)) : va_W := [(a_br, .inr (0, [.ref a_st, .int rn, .int rf, .int rp])), (a_st, .inr (7, [.ref a_stb, .int sc])), (a_stb, .inl (cB, 8000, .inl sb))]
def wp_X0_restart (rn : Int32) (rf : Int32) (rp : Int32) (K : Int32 → Int32 → Int32 → Prop) : Prop := K 0 0 (-1)
abbrev jw_X0_restart : List Cond := .code yX0_restart cX0_restart 1 none :: jmAll
abbrev rmX0_restart : Room := { frames := 0, cells := 0, slots := 0, locals := 0 }
set_option maxHeartbeats 4000000 in
set_option maxRecDepth 100000 in
theorem c_X0_restart (l : Launch) (D : va_G) (cI cB : ClassId) (tt : Nat × Nat × Nat) (a_br a_st a_stb : Nat) (sz : Nat) (rn : Int32) (rf : Int32) (rp : Int32) (sc : Int32) (sb : (Nat → Int32)) {K : Int32 → Int32 → Int32 → Prop} (h : wp_X0_restart rn rf rp K) : Met l yX0_restart jw_X0_restart rmX0_restart (va_Pc [.ref a_br] (jm_Pre D cI cB tt (wd_br_st_stb cI cB a_br a_st a_stb rn rf rp sc sb) sz)) (va_Qv (fun (u : Int32 × Int32 × Int32) => pr3 K u) (jm_Post D cI cB (wd_br_st_stb cI cB a_br a_st a_stb rn rf rp sc sb) sz (fun (u : Int32 × Int32 × Int32) => wd_br_st_stb cI cB a_br a_st a_stb u.1 u.2.1 u.2.2 sc sb)) (va_A (wd_br_st_stb cI cB a_br a_st a_stb rn rf rp sc sb) sz)) 0 0 (va_A (wd_br_st_stb cI cB a_br a_st a_stb rn rf rp sc sb) sz) := by
  refine jm_metV (by decide +kernel) rfl rfl (Nat.le_of_ble_eq_true rfl) ?_
  intro p e s m args below meth c A Q ls C0 hP hD hl hret
  obtain ⟨hx, hb, hml, hr, hown, hts, hlocks, hA, hK, hE⟩ := C0
  have hS : va_S A s.heap s.heap [] := va_S.rf
  have hl : lv_has ls 1 [(0, .ref a_br)] := hl
  unfold wp_X0_restart at h
  have hP : va_P D vwCl [(a_br, .inr (0, [.ref a_st, .int rn, .int rf, .int rp])), (a_st, .inr (7, [.ref a_stb, .int sc])), (a_stb, .inl (cB, 8000, .inl sb))] s.heap := hP
  have hD : va_D A [(a_br, .inr (0, [.ref a_st, .int rn, .int rf, .int rp])), (a_st, .inr (7, [.ref a_stb, .int sc])), (a_stb, .inl (cB, 8000, .inl sb))] := hD
  have iX0 : ∀ w ∈ wsX00, w ∈ jw_X0_restart := fun w h => List.mem_cons_of_mem _ (jm_iX0 w h)
  have lk19 := hts (.fieldLink RX0 19 "IntraMill$BitReader" "next" "I") (List.mem_cons_of_mem _ mw_198)
  have lk22 := hts (.fieldLink RX0 22 "IntraMill$BitReader" "fault" "I") (List.mem_cons_of_mem _ mw_201)
  have lk9 := hts (.fieldLink RX0 9 "IntraMill$BitReader" "faultPlace" "I") (List.mem_cons_of_mem _ mw_202)
  refine lv_aload_n hx hb dX0_restart_0 rfl (lv_at hl 0 rfl) ?_
  refine lv_iconst (v := 0) hx hb dX0_restart_1 (by decide) ?_
  refine va_put (D := D) (ci := 0) (v := .int 0) (ty := .int) (C := RX0) (T := TX0) (N := 4) hx hb hts iX0 tyX0 tyX0_ok nmX0 hown hK hP hD hS 0 rfl rfl 1 (by decide) lk19 (fun _ h9 => h9) rfl (by decide +kernel) rfl rfl (Nat.le_of_ble_eq_true rfl) dX0_restart_2 (fun H_1 locs hP hD hS => ?_)
  have hP : va_P D vwCl [(a_br, .inr (0, [.ref a_st, .int 0, .int rf, .int rp])), (a_st, .inr (7, [.ref a_stb, .int sc])), (a_stb, .inl (cB, 8000, .inl sb))] H_1 := hP
  have hD : va_D A [(a_br, .inr (0, [.ref a_st, .int 0, .int rf, .int rp])), (a_st, .inr (7, [.ref a_stb, .int sc])), (a_stb, .inl (cB, 8000, .inl sb))] := hD
  refine lv_aload_n hx hb dX0_restart_5 rfl (lv_at hl 0 rfl) ?_
  refine lv_iconst (v := 0) hx hb dX0_restart_6 (by decide) ?_
  refine va_put (D := D) (ci := 0) (v := .int 0) (ty := .int) (C := RX0) (T := TX0) (N := 4) hx hb hts iX0 tyX0 tyX0_ok nmX0 hown hK hP hD hS 0 rfl rfl 2 (by decide) lk22 (fun _ h9 => h9) rfl (by decide +kernel) rfl rfl (Nat.le_of_ble_eq_true rfl) dX0_restart_7 (fun H_2 locs hP hD hS => ?_)
  have hP : va_P D vwCl [(a_br, .inr (0, [.ref a_st, .int 0, .int 0, .int rp])), (a_st, .inr (7, [.ref a_stb, .int sc])), (a_stb, .inl (cB, 8000, .inl sb))] H_2 := hP
  have hD : va_D A [(a_br, .inr (0, [.ref a_st, .int 0, .int 0, .int rp])), (a_st, .inr (7, [.ref a_stb, .int sc])), (a_stb, .inl (cB, 8000, .inl sb))] := hD
  refine lv_aload_n hx hb dX0_restart_10 rfl (lv_at hl 0 rfl) ?_
  refine lv_iconst (v := (-1)) hx hb dX0_restart_11 (by decide) ?_
  refine va_put (D := D) (ci := 0) (v := .int (-1)) (ty := .int) (C := RX0) (T := TX0) (N := 4) hx hb hts iX0 tyX0 tyX0_ok nmX0 hown hK hP hD hS 0 rfl rfl 3 (by decide) lk9 (fun _ h9 => h9) rfl (by decide +kernel) rfl rfl (Nat.le_of_ble_eq_true rfl) dX0_restart_12 (fun H_3 locs hP hD hS => ?_)
  have hP : va_P D vwCl [(a_br, .inr (0, [.ref a_st, .int 0, .int 0, .int (-1)])), (a_st, .inr (7, [.ref a_stb, .int sc])), (a_stb, .inl (cB, 8000, .inl sb))] H_3 := hP
  have hD : va_D A [(a_br, .inr (0, [.ref a_st, .int 0, .int 0, .int (-1)])), (a_st, .inr (7, [.ref a_stb, .int sc])), (a_stb, .inl (cB, 8000, .inl sb))] := hD
  exact hret (0, 0, (-1)) _ _ _ _ dX0_restart_15 h hP hD hS
def wp_X0_fail (rf : Int32) (rp : Int32) (v1 v2 : Int32) (K : Int32 → Int32 → Prop) : Prop := K v1 v2
abbrev jw_X0_fail : List Cond := .code yX0_fail cX0_fail 3 none :: jmAll
abbrev rmX0_fail : Room := { frames := 0, cells := 0, slots := 0, locals := 0 }
set_option maxHeartbeats 4000000 in
set_option maxRecDepth 100000 in
theorem c_X0_fail (l : Launch) (D : va_G) (cI cB : ClassId) (tt : Nat × Nat × Nat) (a_br a_st a_stb : Nat) (sz : Nat) (rn : Int32) (rf : Int32) (rp : Int32) (sc : Int32) (sb : (Nat → Int32)) (v1 v2 : Int32) {K : Int32 → Int32 → Prop} (h : wp_X0_fail rf rp v1 v2 K) : Met l yX0_fail jw_X0_fail rmX0_fail (va_Pc [.ref a_br, .int v1, .int v2] (jm_Pre D cI cB tt (wd_br_st_stb cI cB a_br a_st a_stb rn rf rp sc sb) sz)) (va_Qv (fun (u : Int32 × Int32) => pr2 K u) (jm_Post D cI cB (wd_br_st_stb cI cB a_br a_st a_stb rn rf rp sc sb) sz (fun (u : Int32 × Int32) => wd_br_st_stb cI cB a_br a_st a_stb rn u.1 u.2 sc sb)) (va_A (wd_br_st_stb cI cB a_br a_st a_stb rn rf rp sc sb) sz)) 0 0 (va_A (wd_br_st_stb cI cB a_br a_st a_stb rn rf rp sc sb) sz) := by
  refine jm_metV (by decide +kernel) rfl rfl (Nat.le_of_ble_eq_true rfl) ?_
  intro p e s m args below meth c A Q ls C0 hP hD hl hret
  obtain ⟨hx, hb, hml, hr, hown, hts, hlocks, hA, hK, hE⟩ := C0
  have hS : va_S A s.heap s.heap [] := va_S.rf
  have hl : lv_has ls 3 [(0, .ref a_br), (1, .int v1), (2, .int v2)] := hl
  unfold wp_X0_fail at h
  have hP : va_P D vwCl [(a_br, .inr (0, [.ref a_st, .int rn, .int rf, .int rp])), (a_st, .inr (7, [.ref a_stb, .int sc])), (a_stb, .inl (cB, 8000, .inl sb))] s.heap := hP
  have hD : va_D A [(a_br, .inr (0, [.ref a_st, .int rn, .int rf, .int rp])), (a_st, .inr (7, [.ref a_stb, .int sc])), (a_stb, .inl (cB, 8000, .inl sb))] := hD
  have iX0 : ∀ w ∈ wsX00, w ∈ jw_X0_fail := fun w h => List.mem_cons_of_mem _ (jm_iX0 w h)
  have lk22 := hts (.fieldLink RX0 22 "IntraMill$BitReader" "fault" "I") (List.mem_cons_of_mem _ mw_201)
  have lk9 := hts (.fieldLink RX0 9 "IntraMill$BitReader" "faultPlace" "I") (List.mem_cons_of_mem _ mw_202)
  refine lv_aload_n hx hb dX0_fail_0 rfl (lv_at hl 0 rfl) ?_
  refine lv_iload_n hx hb dX0_fail_1 rfl (lv_at hl 1 rfl) ?_
  refine va_put (D := D) (ci := 0) (v := .int v1) (ty := .int) (C := RX0) (T := TX0) (N := 4) hx hb hts iX0 tyX0 tyX0_ok nmX0 hown hK hP hD hS 0 rfl rfl 2 (by decide) lk22 (fun _ h9 => h9) rfl (by decide +kernel) rfl rfl (Nat.le_of_ble_eq_true rfl) dX0_fail_2 (fun H_1 locs hP hD hS => ?_)
  have hP : va_P D vwCl [(a_br, .inr (0, [.ref a_st, .int rn, .int v1, .int rp])), (a_st, .inr (7, [.ref a_stb, .int sc])), (a_stb, .inl (cB, 8000, .inl sb))] H_1 := hP
  have hD : va_D A [(a_br, .inr (0, [.ref a_st, .int rn, .int v1, .int rp])), (a_st, .inr (7, [.ref a_stb, .int sc])), (a_stb, .inl (cB, 8000, .inl sb))] := hD
  refine lv_aload_n hx hb dX0_fail_5 rfl (lv_at hl 0 rfl) ?_
  refine lv_iload_n hx hb dX0_fail_6 rfl (lv_at hl 2 rfl) ?_
  refine va_put (D := D) (ci := 0) (v := .int v2) (ty := .int) (C := RX0) (T := TX0) (N := 4) hx hb hts iX0 tyX0 tyX0_ok nmX0 hown hK hP hD hS 0 rfl rfl 3 (by decide) lk9 (fun _ h9 => h9) rfl (by decide +kernel) rfl rfl (Nat.le_of_ble_eq_true rfl) dX0_fail_7 (fun H_2 locs hP hD hS => ?_)
  have hP : va_P D vwCl [(a_br, .inr (0, [.ref a_st, .int rn, .int v1, .int v2])), (a_st, .inr (7, [.ref a_stb, .int sc])), (a_stb, .inl (cB, 8000, .inl sb))] H_2 := hP
  have hD : va_D A [(a_br, .inr (0, [.ref a_st, .int rn, .int v1, .int v2])), (a_st, .inr (7, [.ref a_stb, .int sc])), (a_stb, .inl (cB, 8000, .inl sb))] := hD
  exact hret (v1, v2) _ _ _ _ dX0_fail_10 h hP hD hS
def wp_X0_left (rn : Int32) (sc : Int32) (K : Int32 → Prop) : Prop := K ((8 * sc) - rn)
abbrev jw_X0_left : List Cond := .code yX0_left cX0_left 1 (some .int) :: jmAll
abbrev rmX0_left : Room := { frames := 0, cells := 0, slots := 0, locals := 0 }
set_option maxHeartbeats 4000000 in
set_option maxRecDepth 100000 in
theorem c_X0_left (l : Launch) (D : va_G) (cI cB : ClassId) (tt : Nat × Nat × Nat) (a_br a_st a_stb : Nat) (sz : Nat) (rn : Int32) (rf : Int32) (rp : Int32) (sc : Int32) (sb : (Nat → Int32)) {K : Int32 → Prop} (h : wp_X0_left rn sc K) : Met l yX0_left jw_X0_left rmX0_left (va_Pc [.ref a_br] (jm_Pre D cI cB tt (wd_br_st_stb cI cB a_br a_st a_stb rn rf rp sc sb) sz)) (va_Qi (fun (r : Int32) (u : Unit) => K r) (jm_Post D cI cB (wd_br_st_stb cI cB a_br a_st a_stb rn rf rp sc sb) sz (fun (u : Unit) => wd_br_st_stb cI cB a_br a_st a_stb rn rf rp sc sb)) (va_A (wd_br_st_stb cI cB a_br a_st a_stb rn rf rp sc sb) sz)) 0 0 (va_A (wd_br_st_stb cI cB a_br a_st a_stb rn rf rp sc sb) sz) := by
  refine jm_metI (by decide +kernel) rfl rfl (Nat.le_of_ble_eq_true rfl) ?_
  intro p e s m args below meth c A Q ls C0 hP hD hl hret
  obtain ⟨hx, hb, hml, hr, hown, hts, hlocks, hA, hK, hE⟩ := C0
  have hS : va_S A s.heap s.heap [] := va_S.rf
  have hl : lv_has ls 1 [(0, .ref a_br)] := hl
  unfold wp_X0_left at h
  have hP : va_P D vwCl [(a_br, .inr (0, [.ref a_st, .int rn, .int rf, .int rp])), (a_st, .inr (7, [.ref a_stb, .int sc])), (a_stb, .inl (cB, 8000, .inl sb))] s.heap := hP
  have hD : va_D A [(a_br, .inr (0, [.ref a_st, .int rn, .int rf, .int rp])), (a_st, .inr (7, [.ref a_stb, .int sc])), (a_stb, .inl (cB, 8000, .inl sb))] := hD
  have iX0 : ∀ w ∈ wsX00, w ∈ jw_X0_left := fun w h => List.mem_cons_of_mem _ (jm_iX0 w h)
  have iX7 : ∀ w ∈ wsX70, w ∈ jw_X0_left := fun w h => List.mem_cons_of_mem _ (jm_iX7 w h)
  have lk15 := hts (.fieldLink RX0 15 "IntraMill$BitReader" "store" "LIntraMill$Store;") (List.mem_cons_of_mem _ mw_197)
  have lk19 := hts (.fieldLink RX0 19 "IntraMill$BitReader" "next" "I") (List.mem_cons_of_mem _ mw_198)
  refine lv_bipush (v := 8) hx hb dX0_left_0 (by decide) ?_
  refine lv_aload_n hx hb dX0_left_2 rfl (lv_at hl 0 rfl) ?_
  refine va_get (D := D) (ci := 0) (v := .ref a_st) (C := RX0) (T := TX0) (N := 4) hx hb hts iX0 hown hK hP 0 rfl rfl 0 (by decide) lk15 (fun _ h9 => h9) rfl dX0_left_3 ?_
  refine va_getN (D := D) (ci := 7) (v := .int sc) (C := RX7) (T := TX7) (N := 2) hx hb hts iX7 hown hK hP 1 rfl rfl 1 (by decide) (va_Nw.use rfl (hE.1 ("IntraMill$BitReader", 25, "IntraMill$Store", "count", "I") (List.mem_of_getElem? (i := 9) rfl))) (fun _ h9 => h9) rfl dX0_left_6 ?_
  refine lv_imul hx hb dX0_left_9 ?_
  refine lv_aload_n hx hb dX0_left_10 rfl (lv_at hl 0 rfl) ?_
  refine va_get (D := D) (ci := 0) (v := .int rn) (C := RX0) (T := TX0) (N := 4) hx hb hts iX0 hown hK hP 0 rfl rfl 1 (by decide) lk19 (fun _ h9 => h9) rfl dX0_left_11 ?_
  refine lv_isub hx hb dX0_left_14 ?_
  exact hret ((8 * sc) - rn) () _ _ _ _ dX0_left_15 (vp_nar_int _) h hP hD hS
def wl_X0_readBits_23 (v1 : Int32) (rn : Int32) (sb : (Nat → Int32)) (K : Int32 → Int32 → Int32 → Int32 → Prop) (X : Int32 → Int32 → Prop) : Nat → Int32 → Int32 → Prop
  | 0, _, _ => False
  | n + 1, v2, v3 => ((v1 ≤ v3 → X v2 v3) ∧ (¬ v1 ≤ v3 → wp_X7_bitAt sb (rn + v3) (fun (r_4 : Int32) => ∀ x2_5 : Int32, x2_5 = (2 * v2) + r_4 → ∀ x3_6 : Int32, x3_6 = v3 + 1 → wl_X0_readBits_23 v1 rn sb K X n x2_5 x3_6)))
def wp_X0_readBits (rn : Int32) (rf : Int32) (rp : Int32) (sc : Int32) (sb : (Nat → Int32)) (v1 : Int32) (K : Int32 → Int32 → Int32 → Int32 → Prop) : Prop := wp_X0_left rn sc (fun (r_1 : Int32) => ((v1 ≤ r_1 → ∃ k : Nat, wl_X0_readBits_23 v1 rn sb K (fun (v2_7 : Int32) (v3_7 : Int32) => K v2_7 (rn + v1) rf rp) k 0 0) ∧ (¬ v1 ≤ r_1 → wp_X0_fail rf rp 1 rn (fun (rf_9 : Int32) (rp_9 : Int32) => K (-1) rn rf_9 rp_9))))
abbrev jw_X0_readBits : List Cond := .code yX0_readBits cX0_readBits 4 (some .int) :: jmAll
abbrev rmX0_readBits : Room := { frames := 1, cells := 0, slots := 0, locals := 22 }
set_option maxHeartbeats 4000000 in
set_option maxRecDepth 100000 in
theorem c_X0_readBits (l : Launch) (D : va_G) (cI cB : ClassId) (tt : Nat × Nat × Nat) (a_br a_st a_stb : Nat) (sz : Nat) (rn : Int32) (rf : Int32) (rp : Int32) (sc : Int32) (sb : (Nat → Int32)) (v1 : Int32) {K : Int32 → Int32 → Int32 → Int32 → Prop} (h : wp_X0_readBits rn rf rp sc sb v1 K) : Met l yX0_readBits jw_X0_readBits rmX0_readBits (va_Pc [.ref a_br, .int v1] (jm_Pre D cI cB tt (wd_br_st_stb cI cB a_br a_st a_stb rn rf rp sc sb) sz)) (va_Qi (fun (r : Int32) (u : Int32 × Int32 × Int32) => pr3 (K r) u) (jm_Post D cI cB (wd_br_st_stb cI cB a_br a_st a_stb rn rf rp sc sb) sz (fun (u : Int32 × Int32 × Int32) => wd_br_st_stb cI cB a_br a_st a_stb u.1 u.2.1 u.2.2 sc sb)) (va_A (wd_br_st_stb cI cB a_br a_st a_stb rn rf rp sc sb) sz)) 0 0 (va_A (wd_br_st_stb cI cB a_br a_st a_stb rn rf rp sc sb) sz) := by
  refine jm_metI (by decide +kernel) rfl rfl (Nat.le_of_ble_eq_true rfl) ?_
  intro p e s m args below meth c A Q ls C0 hP hD hl hret
  obtain ⟨hx, hb, hml, hr, hown, hts, hlocks, hA, hK, hE⟩ := C0
  have hS : va_S A s.heap s.heap [] := va_S.rf
  have hl : lv_has ls 4 [(0, .ref a_br), (1, .int v1)] := hl
  unfold wp_X0_readBits at h
  have hP : va_P D vwCl [(a_br, .inr (0, [.ref a_st, .int rn, .int rf, .int rp])), (a_st, .inr (7, [.ref a_stb, .int sc])), (a_stb, .inl (cB, 8000, .inl sb))] s.heap := hP
  have hD : va_D A [(a_br, .inr (0, [.ref a_st, .int rn, .int rf, .int rp])), (a_st, .inr (7, [.ref a_stb, .int sc])), (a_stb, .inl (cB, 8000, .inl sb))] := hD
  have iX0 : ∀ w ∈ wsX00, w ∈ jw_X0_readBits := fun w h => List.mem_cons_of_mem _ (jm_iX0 w h)
  have lk15 := hts (.fieldLink RX0 15 "IntraMill$BitReader" "store" "LIntraMill$Store;") (List.mem_cons_of_mem _ mw_197)
  have lk19 := hts (.fieldLink RX0 19 "IntraMill$BitReader" "next" "I") (List.mem_cons_of_mem _ mw_198)
  refine lv_aload_n hx hb dX0_readBits_0 rfl (lv_at hl 0 rfl) ?_
  have hPc := hP.sub (ws' := [(a_br, .inr (0, [.ref a_st, .int rn, .int rf, .int rp])), (a_st, .inr (7, [.ref a_stb, .int sc])), (a_stb, .inl (cB, 8000, .inl sb))]) [0, 1, 2] rfl
  have hDc := hD.sub (ws' := [(a_br, .inr (0, [.ref a_st, .int rn, .int rf, .int rp])), (a_st, .inr (7, [.ref a_stb, .int sc])), (a_stb, .inl (cB, 8000, .inl sb))]) [0, 1, 2] (by decide) rfl
  have hFc := va_free (wc := [(a_br, .inr (0, [.ref a_st, .int rn, .int rf, .int rp])), (a_st, .inr (7, [.ref a_stb, .int sc])), (a_stb, .inl (cB, 8000, .inl sb))]) hD hS hA [0, 1, 2] rfl
  refine jm_calli (wr := []) (va_runV (As := []) (rest := []) ⟨hx, hb, hml, hown, hts⟩ (c_X0_left l D cI cB tt a_br a_st a_stb s.heap.size rn rf rp sc sb h) (cwV 0 hts (jm_gV mw_325 mw_326 mw_327 mw_63 mw_328) rfl rfl rfl (by decide +kernel) ⟨Nat.le_of_ble_eq_true rfl, Nat.le_of_ble_eq_true rfl⟩) ⟨jm_blind, va_recv hK hPc (ci := 0) (q0 := 0) rfl rfl, jm_pre hK hE hS hPc hDc hFc _⟩ rfl rfl hl.1 rfl (lv_room (Nat.le_of_ble_eq_true rfl)) dX0_readBits_1 ⟨Nat.zero_le _, Nat.zero_le _⟩) hS hP hD [0, 1, 2] [] rfl rfl (by decide) (by decide) hFc (fun r_1 u_1 H_1 locs hw hP hD hS => ?_)
  have h := hw
  have hP : va_P D vwCl [(a_br, .inr (0, [.ref a_st, .int rn, .int rf, .int rp])), (a_st, .inr (7, [.ref a_stb, .int sc])), (a_stb, .inl (cB, 8000, .inl sb))] H_1 := hP.sub [0, 1, 2] rfl
  have hD : va_D A [(a_br, .inr (0, [.ref a_st, .int rn, .int rf, .int rp])), (a_st, .inr (7, [.ref a_stb, .int sc])), (a_stb, .inl (cB, 8000, .inl sb))] := hD.sub [0, 1, 2] (by decide) rfl
  refine lv_iload_n hx hb dX0_readBits_4 rfl (lv_at hl 1 rfl) ?_
  refine lv_icmp_ge (tgt := 19) hx hb dX0_readBits_5 (by decide) (fun c_2 => ?_) (fun c_2 => ?_)
  · have h := h.1 c_2
    refine lv_iconst (v := 0) hx hb dX0_readBits_19 (by decide) ?_
    refine lv_istore_n (lv' := [(2, .int 0), (0, .ref a_br), (1, .int v1)]) hx hb dX0_readBits_20 rfl hl (by decide) rfl (fun ls hl => ?_)
    refine lv_iconst (v := 0) hx hb dX0_readBits_21 (by decide) ?_
    refine lv_istore_n (lv' := [(3, .int 0), (2, .int 0), (0, .ref a_br), (1, .int v1)]) hx hb dX0_readBits_22 rfl hl (by decide) rfl (fun ls hl => ?_)
    obtain ⟨n_7, h⟩ := h
    have hL_7 : ∀ (v1 : Int32) (rn : Int32) (rf : Int32) (rp : Int32) (X : Int32 → Int32 → Prop), (∀ (v2 : Int32) (v3 : Int32), ∀ (H : Heap) (locs : List Loc) (ls : Array Slot), X v2 v3 → va_P D vwCl [(a_br, .inr (0, [.ref a_st, .int rn, .int rf, .int rp])), (a_st, .inr (7, [.ref a_stb, .int sc])), (a_stb, .inl (cB, 8000, .inl sb))] H → va_D A [(a_br, .inr (0, [.ref a_st, .int rn, .int rf, .int rp])), (a_st, .inr (7, [.ref a_stb, .int sc])), (a_stb, .inl (cB, 8000, .inl sb))] → va_S A s.heap H locs → lv_has ls 4 [(0, .ref a_br), (1, .int v1), (2, .int v2), (3, .int v3)] → W p l e rmX0_readBits s m args below meth c H locs 0 0 Q (F0 m 52 ls [])) → ∀ (n : Nat) (v2 : Int32) (v3 : Int32), ∀ (H : Heap) (locs : List Loc) (ls : Array Slot), wl_X0_readBits_23 v1 rn sb K X n v2 v3 → va_P D vwCl [(a_br, .inr (0, [.ref a_st, .int rn, .int rf, .int rp])), (a_st, .inr (7, [.ref a_stb, .int sc])), (a_stb, .inl (cB, 8000, .inl sb))] H → va_D A [(a_br, .inr (0, [.ref a_st, .int rn, .int rf, .int rp])), (a_st, .inr (7, [.ref a_stb, .int sc])), (a_stb, .inl (cB, 8000, .inl sb))] → va_S A s.heap H locs → lv_has ls 4 [(0, .ref a_br), (1, .int v1), (2, .int v2), (3, .int v3)] → W p l e rmX0_readBits s m args below meth c H locs 0 0 Q (F0 m 23 ls []) := by
      intro v1 rn rf rp X hX n
      induction n with
      | zero => intro v2 v3 H locs ls h; rw [wl_X0_readBits_23] at h; exact h.elim
      | succ n ih =>
        intro v2 v3 H locs ls h hP hD hS hl
        rw [wl_X0_readBits_23] at h
        refine lv_iload_n hx hb dX0_readBits_23 rfl (lv_at hl 3 rfl) ?_
        refine lv_iload_n hx hb dX0_readBits_24 rfl (lv_at hl 1 rfl) ?_
        refine lv_icmp_ge (tgt := 52) hx hb dX0_readBits_25 (by decide) (fun c_3 => ?_) (fun c_3 => ?_)
        · have h := h.1 c_3
          exact hX v2 v3 H _ _ h hP hD hS (lv_sub hl [0, 1, 2, 3] rfl)
        · have h := h.2 c_3
          refine lv_iconst (v := 2) hx hb dX0_readBits_28 (by decide) ?_
          refine lv_iload_n hx hb dX0_readBits_29 rfl (lv_at hl 2 rfl) ?_
          refine lv_imul hx hb dX0_readBits_30 ?_
          refine lv_aload_n hx hb dX0_readBits_31 rfl (lv_at hl 0 rfl) ?_
          refine va_get (D := D) (ci := 0) (v := .ref a_st) (C := RX0) (T := TX0) (N := 4) hx hb hts iX0 hown hK hP 0 rfl rfl 0 (by decide) lk15 (fun _ h9 => h9) rfl dX0_readBits_32 ?_
          refine lv_aload_n hx hb dX0_readBits_35 rfl (lv_at hl 0 rfl) ?_
          refine va_get (D := D) (ci := 0) (v := .int rn) (C := RX0) (T := TX0) (N := 4) hx hb hts iX0 hown hK hP 0 rfl rfl 1 (by decide) lk19 (fun _ h9 => h9) rfl dX0_readBits_36 ?_
          refine lv_iload_n hx hb dX0_readBits_39 rfl (lv_at hl 3 rfl) ?_
          refine lv_iadd hx hb dX0_readBits_40 ?_
          have hPc := hP.sub (ws' := [(a_st, .inr (7, [.ref a_stb, .int sc])), (a_stb, .inl (cB, 8000, .inl sb))]) [1, 2] rfl
          have hDc := hD.sub (ws' := [(a_st, .inr (7, [.ref a_stb, .int sc])), (a_stb, .inl (cB, 8000, .inl sb))]) [1, 2] (by decide) rfl
          have hFc := va_free (wc := [(a_st, .inr (7, [.ref a_stb, .int sc])), (a_stb, .inl (cB, 8000, .inl sb))]) hD hS hA [1, 2] rfl
          refine jm_calli (wr := [(a_br, .inr (0, [.ref a_st, .int rn, .int rf, .int rp]))]) (va_runV (As := [.int (rn + v3)]) (rest := [.int (2 * v2)]) ⟨hx, hb, hml, hown, hts⟩ (c_X7_bitAt l D cI cB tt a_st a_stb H.size sc sb (rn + v3) h) (cwV 1 hts (jm_gV mw_329 mw_330 mw_331 mw_60 mw_332) rfl rfl rfl (by decide +kernel) ⟨Nat.le_of_ble_eq_true rfl, Nat.le_of_ble_eq_true rfl⟩) ⟨jm_blind, va_recv hK hPc (ci := 7) (q0 := 0) rfl rfl, jm_pre hK hE hS hPc hDc hFc _⟩ rfl rfl hl.1 rfl (lv_room (Nat.le_of_ble_eq_true rfl)) dX0_readBits_41 ⟨Nat.zero_le _, Nat.zero_le _⟩) hS hP hD [1, 2] [0] rfl rfl (by decide) (by decide) hFc (fun r_4 u_4 H_4 locs hw hP hD hS => ?_)
          have h := hw
          have hP : va_P D vwCl [(a_br, .inr (0, [.ref a_st, .int rn, .int rf, .int rp])), (a_st, .inr (7, [.ref a_stb, .int sc])), (a_stb, .inl (cB, 8000, .inl sb))] H_4 := hP.sub [0, 1, 2] rfl
          have hD : va_D A [(a_br, .inr (0, [.ref a_st, .int rn, .int rf, .int rp])), (a_st, .inr (7, [.ref a_stb, .int sc])), (a_stb, .inl (cB, 8000, .inl sb))] := hD.sub [0, 1, 2] (by decide) rfl
          refine lv_iadd hx hb dX0_readBits_44 ?_
          refine lv_topi (fun x2_5 ex2_5 => ?_)
          have h := h x2_5 ex2_5
          refine lv_istore_n (lv' := [(2, .int x2_5), (0, .ref a_br), (1, .int v1), (3, .int v3)]) hx hb dX0_readBits_45 rfl hl (by decide) rfl (fun ls hl => ?_)
          obtain ⟨x3_6, ex3_6⟩ : ∃ y : Int32, y = v3 + 1 := ⟨_, rfl⟩
          have h := h x3_6 ex3_6
          refine lv_iinc (v := x3_6) (lv' := [(3, .int x3_6), (2, .int x2_5), (0, .ref a_br), (1, .int v1)]) hx hb dX0_readBits_46 hl (k := 3) rfl (by rw [ex3_6]; rfl) (by decide) rfl (fun ls hl => ?_)
          refine lv_goto (tgt := 23) hx hb dX0_readBits_49 (by decide) ?_
          exact ih x2_5 x3_6 H_4 _ _ h hP hD hS (lv_sub hl [2, 3, 1, 0] rfl)
    refine hL_7 v1 rn rf rp _ ?_ n_7 0 0 H_1 _ _ h hP hD hS (lv_sub hl [2, 3, 1, 0] rfl)
    intro v2_7 v3_7 H locs ls h hP hD hS hl
    refine lv_aload_n hx hb dX0_readBits_52 rfl (lv_at hl 0 rfl) ?_
    refine lv_dup hx hb dX0_readBits_53 rfl ?_
    refine va_get (D := D) (ci := 0) (v := .int rn) (C := RX0) (T := TX0) (N := 4) hx hb hts iX0 hown hK hP 0 rfl rfl 1 (by decide) lk19 (fun _ h9 => h9) rfl dX0_readBits_54 ?_
    refine lv_iload_n hx hb dX0_readBits_57 rfl (lv_at hl 1 rfl) ?_
    refine lv_iadd hx hb dX0_readBits_58 ?_
    refine va_put (D := D) (ci := 0) (v := .int (rn + v1)) (ty := .int) (C := RX0) (T := TX0) (N := 4) hx hb hts iX0 tyX0 tyX0_ok nmX0 hown hK hP hD hS 0 rfl rfl 1 (by decide) lk19 (fun _ h9 => h9) rfl (by decide +kernel) rfl rfl (Nat.le_of_ble_eq_true rfl) dX0_readBits_59 (fun H_8 locs hP hD hS => ?_)
    have hP : va_P D vwCl [(a_br, .inr (0, [.ref a_st, .int (rn + v1), .int rf, .int rp])), (a_st, .inr (7, [.ref a_stb, .int sc])), (a_stb, .inl (cB, 8000, .inl sb))] H_8 := hP
    have hD : va_D A [(a_br, .inr (0, [.ref a_st, .int (rn + v1), .int rf, .int rp])), (a_st, .inr (7, [.ref a_stb, .int sc])), (a_stb, .inl (cB, 8000, .inl sb))] := hD
    refine lv_iload_n hx hb dX0_readBits_62 rfl (lv_at hl 2 rfl) ?_
    exact hret v2_7 (rn + v1, rf, rp) _ _ _ _ dX0_readBits_63 (vp_nar_int _) h hP hD hS
  · have h := h.2 c_2
    refine lv_aload_n hx hb dX0_readBits_8 rfl (lv_at hl 0 rfl) ?_
    refine lv_iconst (v := 1) hx hb dX0_readBits_9 (by decide) ?_
    refine lv_aload_n hx hb dX0_readBits_10 rfl (lv_at hl 0 rfl) ?_
    refine va_get (D := D) (ci := 0) (v := .int rn) (C := RX0) (T := TX0) (N := 4) hx hb hts iX0 hown hK hP 0 rfl rfl 1 (by decide) lk19 (fun _ h9 => h9) rfl dX0_readBits_11 ?_
    have hPc := hP.sub (ws' := [(a_br, .inr (0, [.ref a_st, .int rn, .int rf, .int rp])), (a_st, .inr (7, [.ref a_stb, .int sc])), (a_stb, .inl (cB, 8000, .inl sb))]) [0, 1, 2] rfl
    have hDc := hD.sub (ws' := [(a_br, .inr (0, [.ref a_st, .int rn, .int rf, .int rp])), (a_st, .inr (7, [.ref a_stb, .int sc])), (a_stb, .inl (cB, 8000, .inl sb))]) [0, 1, 2] (by decide) rfl
    have hFc := va_free (wc := [(a_br, .inr (0, [.ref a_st, .int rn, .int rf, .int rp])), (a_st, .inr (7, [.ref a_stb, .int sc])), (a_stb, .inl (cB, 8000, .inl sb))]) hD hS hA [0, 1, 2] rfl
    refine jm_callv (wr := []) (va_runV (As := [.int 1, .int rn]) (rest := []) ⟨hx, hb, hml, hown, hts⟩ (c_X0_fail l D cI cB tt a_br a_st a_stb H_1.size rn rf rp sc sb 1 rn h) (cwV 2 hts (jm_gV mw_333 mw_334 mw_335 mw_63 mw_336) rfl rfl rfl (by decide +kernel) ⟨Nat.le_of_ble_eq_true rfl, Nat.le_of_ble_eq_true rfl⟩) ⟨jm_blind, va_recv hK hPc (ci := 0) (q0 := 0) rfl rfl, jm_pre hK hE hS hPc hDc hFc _⟩ rfl rfl hl.1 rfl (lv_room (Nat.le_of_ble_eq_true rfl)) dX0_readBits_14 ⟨Nat.zero_le _, Nat.zero_le _⟩) hS hP hD [0, 1, 2] [] rfl rfl (by decide) (by decide) hFc (fun u_9 H_9 locs hw hP hD hS => ?_)
    obtain ⟨rf_9, rp_9⟩ := u_9
    have h := pr2_out hw
    have hP : va_P D vwCl [(a_br, .inr (0, [.ref a_st, .int rn, .int rf_9, .int rp_9])), (a_st, .inr (7, [.ref a_stb, .int sc])), (a_stb, .inl (cB, 8000, .inl sb))] H_9 := hP.sub [0, 1, 2] rfl
    have hD : va_D A [(a_br, .inr (0, [.ref a_st, .int rn, .int rf_9, .int rp_9])), (a_st, .inr (7, [.ref a_stb, .int sc])), (a_stb, .inl (cB, 8000, .inl sb))] := hD.sub [0, 1, 2] (by decide) rfl
    refine lv_iconst (v := (-1)) hx hb dX0_readBits_17 (by decide) ?_
    exact hret (-1) (rn, rf_9, rp_9) _ _ _ _ dX0_readBits_18 (vp_nar_int _) h hP hD hS
def wl_X0_countZeros_2 (rn : Int32) (sc : Int32) (sb : (Nat → Int32)) (K : Int32 → Prop) (X : Int32 → Prop) : Nat → Int32 → Prop
  | 0, _ => False
  | n + 1, v1 => ((15 < v1 → X v1) ∧ (¬ 15 < v1 → wp_X0_left rn sc (fun (r_2 : Int32) => ((r_2 ≤ v1 → X v1) ∧ (¬ r_2 ≤ v1 → wp_X7_bitAt sb (rn + v1) (fun (r_4 : Int32) => ((r_4 = 0 → ∀ x1_6 : Int32, x1_6 = v1 + 1 → wl_X0_countZeros_2 rn sc sb K X n x1_6) ∧ (¬ r_4 = 0 → X v1))))))))
def wp_X0_countZeros (rn : Int32) (sc : Int32) (sb : (Nat → Int32)) (K : Int32 → Prop) : Prop := ∃ k : Nat, wl_X0_countZeros_2 rn sc sb K (fun (v1_7 : Int32) => K v1_7) k 0
abbrev jw_X0_countZeros : List Cond := .code yX0_countZeros cX0_countZeros 2 (some .int) :: jmAll
abbrev rmX0_countZeros : Room := { frames := 1, cells := 0, slots := 0, locals := 21 }
set_option maxHeartbeats 4000000 in
set_option maxRecDepth 100000 in
theorem c_X0_countZeros (l : Launch) (D : va_G) (cI cB : ClassId) (tt : Nat × Nat × Nat) (a_br a_st a_stb : Nat) (sz : Nat) (rn : Int32) (rf : Int32) (rp : Int32) (sc : Int32) (sb : (Nat → Int32)) {K : Int32 → Prop} (h : wp_X0_countZeros rn sc sb K) : Met l yX0_countZeros jw_X0_countZeros rmX0_countZeros (va_Pc [.ref a_br] (jm_Pre D cI cB tt (wd_br_st_stb cI cB a_br a_st a_stb rn rf rp sc sb) sz)) (va_Qi (fun (r : Int32) (u : Unit) => K r) (jm_Post D cI cB (wd_br_st_stb cI cB a_br a_st a_stb rn rf rp sc sb) sz (fun (u : Unit) => wd_br_st_stb cI cB a_br a_st a_stb rn rf rp sc sb)) (va_A (wd_br_st_stb cI cB a_br a_st a_stb rn rf rp sc sb) sz)) 0 0 (va_A (wd_br_st_stb cI cB a_br a_st a_stb rn rf rp sc sb) sz) := by
  refine jm_metI (by decide +kernel) rfl rfl (Nat.le_of_ble_eq_true rfl) ?_
  intro p e s m args below meth c A Q ls C0 hP hD hl hret
  obtain ⟨hx, hb, hml, hr, hown, hts, hlocks, hA, hK, hE⟩ := C0
  have hS : va_S A s.heap s.heap [] := va_S.rf
  have hl : lv_has ls 2 [(0, .ref a_br)] := hl
  unfold wp_X0_countZeros at h
  have hP : va_P D vwCl [(a_br, .inr (0, [.ref a_st, .int rn, .int rf, .int rp])), (a_st, .inr (7, [.ref a_stb, .int sc])), (a_stb, .inl (cB, 8000, .inl sb))] s.heap := hP
  have hD : va_D A [(a_br, .inr (0, [.ref a_st, .int rn, .int rf, .int rp])), (a_st, .inr (7, [.ref a_stb, .int sc])), (a_stb, .inl (cB, 8000, .inl sb))] := hD
  have iX0 : ∀ w ∈ wsX00, w ∈ jw_X0_countZeros := fun w h => List.mem_cons_of_mem _ (jm_iX0 w h)
  have lk15 := hts (.fieldLink RX0 15 "IntraMill$BitReader" "store" "LIntraMill$Store;") (List.mem_cons_of_mem _ mw_197)
  have lk19 := hts (.fieldLink RX0 19 "IntraMill$BitReader" "next" "I") (List.mem_cons_of_mem _ mw_198)
  refine lv_iconst (v := 0) hx hb dX0_countZeros_0 (by decide) ?_
  refine lv_istore_n (lv' := [(1, .int 0), (0, .ref a_br)]) hx hb dX0_countZeros_1 rfl hl (by decide) rfl (fun ls hl => ?_)
  obtain ⟨n_7, h⟩ := h
  have hL_7 : ∀ (_ : Unit) (X : Int32 → Prop), (∀ (v1 : Int32), ∀ (H : Heap) (locs : List Loc) (ls : Array Slot), X v1 → va_P D vwCl [(a_br, .inr (0, [.ref a_st, .int rn, .int rf, .int rp])), (a_st, .inr (7, [.ref a_stb, .int sc])), (a_stb, .inl (cB, 8000, .inl sb))] H → va_D A [(a_br, .inr (0, [.ref a_st, .int rn, .int rf, .int rp])), (a_st, .inr (7, [.ref a_stb, .int sc])), (a_stb, .inl (cB, 8000, .inl sb))] → va_S A s.heap H locs → lv_has ls 2 [(0, .ref a_br), (1, .int v1)] → W p l e rmX0_countZeros s m args below meth c H locs 0 0 Q (F0 m 38 ls [])) → ∀ (n : Nat) (v1 : Int32), ∀ (H : Heap) (locs : List Loc) (ls : Array Slot), wl_X0_countZeros_2 rn sc sb K X n v1 → va_P D vwCl [(a_br, .inr (0, [.ref a_st, .int rn, .int rf, .int rp])), (a_st, .inr (7, [.ref a_stb, .int sc])), (a_stb, .inl (cB, 8000, .inl sb))] H → va_D A [(a_br, .inr (0, [.ref a_st, .int rn, .int rf, .int rp])), (a_st, .inr (7, [.ref a_stb, .int sc])), (a_stb, .inl (cB, 8000, .inl sb))] → va_S A s.heap H locs → lv_has ls 2 [(0, .ref a_br), (1, .int v1)] → W p l e rmX0_countZeros s m args below meth c H locs 0 0 Q (F0 m 2 ls []) := by
    intro _ X hX n
    induction n with
    | zero => intro v1 H locs ls h; rw [wl_X0_countZeros_2] at h; exact h.elim
    | succ n ih =>
      intro v1 H locs ls h hP hD hS hl
      rw [wl_X0_countZeros_2] at h
      refine lv_iload_n hx hb dX0_countZeros_2 rfl (lv_at hl 1 rfl) ?_
      refine lv_bipush (v := 15) hx hb dX0_countZeros_3 (by decide) ?_
      refine lv_icmp_gt (tgt := 38) hx hb dX0_countZeros_5 (by decide) (fun c_1 => ?_) (fun c_1 => ?_)
      · have h := h.1 c_1
        exact hX v1 H _ _ h hP hD hS (lv_sub hl [0, 1] rfl)
      · have h := h.2 c_1
        refine lv_iload_n hx hb dX0_countZeros_8 rfl (lv_at hl 1 rfl) ?_
        refine lv_aload_n hx hb dX0_countZeros_9 rfl (lv_at hl 0 rfl) ?_
        have hPc := hP.sub (ws' := [(a_br, .inr (0, [.ref a_st, .int rn, .int rf, .int rp])), (a_st, .inr (7, [.ref a_stb, .int sc])), (a_stb, .inl (cB, 8000, .inl sb))]) [0, 1, 2] rfl
        have hDc := hD.sub (ws' := [(a_br, .inr (0, [.ref a_st, .int rn, .int rf, .int rp])), (a_st, .inr (7, [.ref a_stb, .int sc])), (a_stb, .inl (cB, 8000, .inl sb))]) [0, 1, 2] (by decide) rfl
        have hFc := va_free (wc := [(a_br, .inr (0, [.ref a_st, .int rn, .int rf, .int rp])), (a_st, .inr (7, [.ref a_stb, .int sc])), (a_stb, .inl (cB, 8000, .inl sb))]) hD hS hA [0, 1, 2] rfl
        refine jm_calli (wr := []) (va_runV (As := []) (rest := [.int v1]) ⟨hx, hb, hml, hown, hts⟩ (c_X0_left l D cI cB tt a_br a_st a_stb H.size rn rf rp sc sb h) (cwV 0 hts (jm_gV mw_325 mw_326 mw_327 mw_63 mw_328) rfl rfl rfl (by decide +kernel) ⟨Nat.le_of_ble_eq_true rfl, Nat.le_of_ble_eq_true rfl⟩) ⟨jm_blind, va_recv hK hPc (ci := 0) (q0 := 0) rfl rfl, jm_pre hK hE hS hPc hDc hFc _⟩ rfl rfl hl.1 rfl (lv_room (Nat.le_of_ble_eq_true rfl)) dX0_countZeros_10 ⟨Nat.zero_le _, Nat.zero_le _⟩) hS hP hD [0, 1, 2] [] rfl rfl (by decide) (by decide) hFc (fun r_2 u_2 H_2 locs hw hP hD hS => ?_)
        have h := hw
        have hP : va_P D vwCl [(a_br, .inr (0, [.ref a_st, .int rn, .int rf, .int rp])), (a_st, .inr (7, [.ref a_stb, .int sc])), (a_stb, .inl (cB, 8000, .inl sb))] H_2 := hP.sub [0, 1, 2] rfl
        have hD : va_D A [(a_br, .inr (0, [.ref a_st, .int rn, .int rf, .int rp])), (a_st, .inr (7, [.ref a_stb, .int sc])), (a_stb, .inl (cB, 8000, .inl sb))] := hD.sub [0, 1, 2] (by decide) rfl
        refine lv_icmp_ge (tgt := 38) hx hb dX0_countZeros_13 (by decide) (fun c_3 => ?_) (fun c_3 => ?_)
        · have h := h.1 c_3
          exact hX v1 H_2 _ _ h hP hD hS (lv_sub hl [0, 1] rfl)
        · have h := h.2 c_3
          refine lv_aload_n hx hb dX0_countZeros_16 rfl (lv_at hl 0 rfl) ?_
          refine va_get (D := D) (ci := 0) (v := .ref a_st) (C := RX0) (T := TX0) (N := 4) hx hb hts iX0 hown hK hP 0 rfl rfl 0 (by decide) lk15 (fun _ h9 => h9) rfl dX0_countZeros_17 ?_
          refine lv_aload_n hx hb dX0_countZeros_20 rfl (lv_at hl 0 rfl) ?_
          refine va_get (D := D) (ci := 0) (v := .int rn) (C := RX0) (T := TX0) (N := 4) hx hb hts iX0 hown hK hP 0 rfl rfl 1 (by decide) lk19 (fun _ h9 => h9) rfl dX0_countZeros_21 ?_
          refine lv_iload_n hx hb dX0_countZeros_24 rfl (lv_at hl 1 rfl) ?_
          refine lv_iadd hx hb dX0_countZeros_25 ?_
          have hPc := hP.sub (ws' := [(a_st, .inr (7, [.ref a_stb, .int sc])), (a_stb, .inl (cB, 8000, .inl sb))]) [1, 2] rfl
          have hDc := hD.sub (ws' := [(a_st, .inr (7, [.ref a_stb, .int sc])), (a_stb, .inl (cB, 8000, .inl sb))]) [1, 2] (by decide) rfl
          have hFc := va_free (wc := [(a_st, .inr (7, [.ref a_stb, .int sc])), (a_stb, .inl (cB, 8000, .inl sb))]) hD hS hA [1, 2] rfl
          refine jm_calli (wr := [(a_br, .inr (0, [.ref a_st, .int rn, .int rf, .int rp]))]) (va_runV (As := [.int (rn + v1)]) (rest := []) ⟨hx, hb, hml, hown, hts⟩ (c_X7_bitAt l D cI cB tt a_st a_stb H_2.size sc sb (rn + v1) h) (cwV 1 hts (jm_gV mw_329 mw_330 mw_331 mw_60 mw_332) rfl rfl rfl (by decide +kernel) ⟨Nat.le_of_ble_eq_true rfl, Nat.le_of_ble_eq_true rfl⟩) ⟨jm_blind, va_recv hK hPc (ci := 7) (q0 := 0) rfl rfl, jm_pre hK hE hS hPc hDc hFc _⟩ rfl rfl hl.1 rfl (lv_room (Nat.le_of_ble_eq_true rfl)) dX0_countZeros_26 ⟨Nat.zero_le _, Nat.zero_le _⟩) hS hP hD [1, 2] [0] rfl rfl (by decide) (by decide) hFc (fun r_4 u_4 H_4 locs hw hP hD hS => ?_)
          have h := hw
          have hP : va_P D vwCl [(a_br, .inr (0, [.ref a_st, .int rn, .int rf, .int rp])), (a_st, .inr (7, [.ref a_stb, .int sc])), (a_stb, .inl (cB, 8000, .inl sb))] H_4 := hP.sub [0, 1, 2] rfl
          have hD : va_D A [(a_br, .inr (0, [.ref a_st, .int rn, .int rf, .int rp])), (a_st, .inr (7, [.ref a_stb, .int sc])), (a_stb, .inl (cB, 8000, .inl sb))] := hD.sub [0, 1, 2] (by decide) rfl
          refine lv_if_ne (tgt := 38) hx hb dX0_countZeros_29 (by decide) (fun c_5 => ?_) (fun c_5 => ?_)
          · have h := h.2 c_5
            exact hX v1 H_4 _ _ h hP hD hS (lv_sub hl [0, 1] rfl)
          · have h := h.1 c_5
            obtain ⟨x1_6, ex1_6⟩ : ∃ y : Int32, y = v1 + 1 := ⟨_, rfl⟩
            have h := h x1_6 ex1_6
            refine lv_iinc (v := x1_6) (lv' := [(1, .int x1_6), (0, .ref a_br)]) hx hb dX0_countZeros_32 hl (k := 1) rfl (by rw [ex1_6]; rfl) (by decide) rfl (fun ls hl => ?_)
            refine lv_goto (tgt := 2) hx hb dX0_countZeros_35 (by decide) ?_
            exact ih x1_6 H_4 _ _ h hP hD hS (lv_sub hl [1, 0] rfl)
  refine hL_7 () _ ?_ n_7 0 s.heap _ _ h hP hD hS (lv_sub hl [1, 0] rfl)
  intro v1_7 H locs ls h hP hD hS hl
  refine lv_iload_n hx hb dX0_countZeros_38 rfl (lv_at hl 1 rfl) ?_
  exact hret v1_7 () _ _ _ _ dX0_countZeros_39 (vp_nar_int _) h hP hD hS
def wp_X0_readNumber (rn : Int32) (rf : Int32) (rp : Int32) (sc : Int32) (sb : (Nat → Int32)) (v1 v2 : Int32) (K : Int32 → Int32 → Int32 → Int32 → Prop) : Prop := wp_X0_countZeros rn sc sb (fun (r_1 : Int32) => jn0 (wp_X0_fail rf rp 1 rn (fun (rf_3 : Int32) (rp_3 : Int32) => K (-1) rn rf_3 rp_3)) (fun J_2 => ((15 < r_1 → J_2) ∧ (¬ 15 < r_1 → wp_X0_left rn sc (fun (r_5 : Int32) => ((((2 * r_1) + 1) ≤ r_5 → wp_X0_readBits (rn + r_1) rf rp sc sb (r_1 + 1) (fun (r_8 : Int32) (rn_8 : Int32) (rf_8 : Int32) (rp_8 : Int32) => ∀ x5_9 : Int32, x5_9 = r_8 - 1 → ((x5_9 ≤ v1 → K x5_9 rn_8 rf_8 rp_8) ∧ (¬ x5_9 ≤ v1 → wp_X0_fail rf_8 rp_8 v2 rn (fun (rf_11 : Int32) (rp_11 : Int32) => K (-1) rn_8 rf_11 rp_11))))) ∧ (¬ ((2 * r_1) + 1) ≤ r_5 → J_2)))))))
abbrev jw_X0_readNumber : List Cond := .code yX0_readNumber cX0_readNumber 6 (some .int) :: jmAll
abbrev rmX0_readNumber : Room := { frames := 2, cells := 0, slots := 0, locals := 45 }
set_option maxHeartbeats 4000000 in
set_option maxRecDepth 100000 in
theorem c_X0_readNumber (l : Launch) (D : va_G) (cI cB : ClassId) (tt : Nat × Nat × Nat) (a_br a_st a_stb : Nat) (sz : Nat) (rn : Int32) (rf : Int32) (rp : Int32) (sc : Int32) (sb : (Nat → Int32)) (v1 v2 : Int32) {K : Int32 → Int32 → Int32 → Int32 → Prop} (h : wp_X0_readNumber rn rf rp sc sb v1 v2 K) : Met l yX0_readNumber jw_X0_readNumber rmX0_readNumber (va_Pc [.ref a_br, .int v1, .int v2] (jm_Pre D cI cB tt (wd_br_st_stb cI cB a_br a_st a_stb rn rf rp sc sb) sz)) (va_Qi (fun (r : Int32) (u : Int32 × Int32 × Int32) => pr3 (K r) u) (jm_Post D cI cB (wd_br_st_stb cI cB a_br a_st a_stb rn rf rp sc sb) sz (fun (u : Int32 × Int32 × Int32) => wd_br_st_stb cI cB a_br a_st a_stb u.1 u.2.1 u.2.2 sc sb)) (va_A (wd_br_st_stb cI cB a_br a_st a_stb rn rf rp sc sb) sz)) 0 0 (va_A (wd_br_st_stb cI cB a_br a_st a_stb rn rf rp sc sb) sz) := by
  refine jm_metI (by decide +kernel) rfl rfl (Nat.le_of_ble_eq_true rfl) ?_
  intro p e s m args below meth c A Q ls C0 hP hD hl hret
  obtain ⟨hx, hb, hml, hr, hown, hts, hlocks, hA, hK, hE⟩ := C0
  have hS : va_S A s.heap s.heap [] := va_S.rf
  have hl : lv_has ls 6 [(0, .ref a_br), (1, .int v1), (2, .int v2)] := hl
  unfold wp_X0_readNumber at h
  have hP : va_P D vwCl [(a_br, .inr (0, [.ref a_st, .int rn, .int rf, .int rp])), (a_st, .inr (7, [.ref a_stb, .int sc])), (a_stb, .inl (cB, 8000, .inl sb))] s.heap := hP
  have hD : va_D A [(a_br, .inr (0, [.ref a_st, .int rn, .int rf, .int rp])), (a_st, .inr (7, [.ref a_stb, .int sc])), (a_stb, .inl (cB, 8000, .inl sb))] := hD
  have iX0 : ∀ w ∈ wsX00, w ∈ jw_X0_readNumber := fun w h => List.mem_cons_of_mem _ (jm_iX0 w h)
  have lk19 := hts (.fieldLink RX0 19 "IntraMill$BitReader" "next" "I") (List.mem_cons_of_mem _ mw_198)
  refine lv_aload_n hx hb dX0_readNumber_0 rfl (lv_at hl 0 rfl) ?_
  refine va_get (D := D) (ci := 0) (v := .int rn) (C := RX0) (T := TX0) (N := 4) hx hb hts iX0 hown hK hP 0 rfl rfl 1 (by decide) lk19 (fun _ h9 => h9) rfl dX0_readNumber_1 ?_
  refine lv_istore_n (lv' := [(3, .int rn), (0, .ref a_br), (1, .int v1), (2, .int v2)]) hx hb dX0_readNumber_4 rfl hl (by decide) rfl (fun ls hl => ?_)
  refine lv_aload_n hx hb dX0_readNumber_5 rfl (lv_at hl 1 rfl) ?_
  have hPc := hP.sub (ws' := [(a_br, .inr (0, [.ref a_st, .int rn, .int rf, .int rp])), (a_st, .inr (7, [.ref a_stb, .int sc])), (a_stb, .inl (cB, 8000, .inl sb))]) [0, 1, 2] rfl
  have hDc := hD.sub (ws' := [(a_br, .inr (0, [.ref a_st, .int rn, .int rf, .int rp])), (a_st, .inr (7, [.ref a_stb, .int sc])), (a_stb, .inl (cB, 8000, .inl sb))]) [0, 1, 2] (by decide) rfl
  have hFc := va_free (wc := [(a_br, .inr (0, [.ref a_st, .int rn, .int rf, .int rp])), (a_st, .inr (7, [.ref a_stb, .int sc])), (a_stb, .inl (cB, 8000, .inl sb))]) hD hS hA [0, 1, 2] rfl
  refine jm_calli (wr := []) (va_runV (As := []) (rest := []) ⟨hx, hb, hml, hown, hts⟩ (c_X0_countZeros l D cI cB tt a_br a_st a_stb s.heap.size rn rf rp sc sb h) (cwV 0 hts (jm_gV mw_321 mw_323 mw_1 mw_63 mw_324) rfl rfl rfl (by decide +kernel) ⟨Nat.le_of_ble_eq_true rfl, Nat.le_of_ble_eq_true rfl⟩) ⟨jm_blind, va_recv hK hPc (ci := 0) (q0 := 0) rfl rfl, jm_pre hK hE hS hPc hDc hFc _⟩ rfl rfl hl.1 rfl (lv_room (Nat.le_of_ble_eq_true rfl)) dX0_readNumber_6 ⟨Nat.zero_le _, Nat.zero_le _⟩) hS hP hD [0, 1, 2] [] rfl rfl (by decide) (by decide) hFc (fun r_1 u_1 H_1 locs hw hP hD hS => ?_)
  have h := hw
  have hP : va_P D vwCl [(a_br, .inr (0, [.ref a_st, .int rn, .int rf, .int rp])), (a_st, .inr (7, [.ref a_stb, .int sc])), (a_stb, .inl (cB, 8000, .inl sb))] H_1 := hP.sub [0, 1, 2] rfl
  have hD : va_D A [(a_br, .inr (0, [.ref a_st, .int rn, .int rf, .int rp])), (a_st, .inr (7, [.ref a_stb, .int sc])), (a_stb, .inl (cB, 8000, .inl sb))] := hD.sub [0, 1, 2] (by decide) rfl
  refine lv_istore (lv' := [(4, .int r_1), (3, .int rn), (0, .ref a_br), (1, .int v1), (2, .int v2)]) hx hb dX0_readNumber_9 hl (by decide) rfl (fun ls hl => ?_)
  refine lv_iload hx hb dX0_readNumber_11 (lv_at hl 0 rfl) ?_
  refine lv_bipush (v := 15) hx hb dX0_readNumber_13 (by decide) ?_
  obtain ⟨J_2, hj_2, h⟩ := jn0_out h
  have hJ_2 : ∀ (H : Heap) (locs : List Loc) (ls : Array Slot), J_2 → va_P D vwCl [(a_br, .inr (0, [.ref a_st, .int rn, .int rf, .int rp])), (a_st, .inr (7, [.ref a_stb, .int sc])), (a_stb, .inl (cB, 8000, .inl sb))] H → va_D A [(a_br, .inr (0, [.ref a_st, .int rn, .int rf, .int rp])), (a_st, .inr (7, [.ref a_stb, .int sc])), (a_stb, .inl (cB, 8000, .inl sb))] → va_S A s.heap H locs → lv_has ls 6 [(0, .ref a_br), (1, .int v1), (2, .int v2), (3, .int rn), (4, .int r_1)] → W p l e rmX0_readNumber s m args below meth c H locs 0 0 Q (F0 m 31 ls []) := by
    intro  H locs ls h hP hD hS hl
    have h := hj_2 h
    refine lv_aload_n hx hb dX0_readNumber_31 rfl (lv_at hl 0 rfl) ?_
    refine lv_iconst (v := 1) hx hb dX0_readNumber_32 (by decide) ?_
    refine lv_iload_n hx hb dX0_readNumber_33 rfl (lv_at hl 3 rfl) ?_
    have hPc := hP.sub (ws' := [(a_br, .inr (0, [.ref a_st, .int rn, .int rf, .int rp])), (a_st, .inr (7, [.ref a_stb, .int sc])), (a_stb, .inl (cB, 8000, .inl sb))]) [0, 1, 2] rfl
    have hDc := hD.sub (ws' := [(a_br, .inr (0, [.ref a_st, .int rn, .int rf, .int rp])), (a_st, .inr (7, [.ref a_stb, .int sc])), (a_stb, .inl (cB, 8000, .inl sb))]) [0, 1, 2] (by decide) rfl
    have hFc := va_free (wc := [(a_br, .inr (0, [.ref a_st, .int rn, .int rf, .int rp])), (a_st, .inr (7, [.ref a_stb, .int sc])), (a_stb, .inl (cB, 8000, .inl sb))]) hD hS hA [0, 1, 2] rfl
    refine jm_callv (wr := []) (va_runV (As := [.int 1, .int rn]) (rest := []) ⟨hx, hb, hml, hown, hts⟩ (c_X0_fail l D cI cB tt a_br a_st a_stb H.size rn rf rp sc sb 1 rn h) (cwV 2 hts (jm_gV mw_333 mw_334 mw_335 mw_63 mw_336) rfl rfl rfl (by decide +kernel) ⟨Nat.le_of_ble_eq_true rfl, Nat.le_of_ble_eq_true rfl⟩) ⟨jm_blind, va_recv hK hPc (ci := 0) (q0 := 0) rfl rfl, jm_pre hK hE hS hPc hDc hFc _⟩ rfl rfl hl.1 rfl (lv_room (Nat.le_of_ble_eq_true rfl)) dX0_readNumber_34 ⟨Nat.zero_le _, Nat.zero_le _⟩) hS hP hD [0, 1, 2] [] rfl rfl (by decide) (by decide) hFc (fun u_3 H_3 locs hw hP hD hS => ?_)
    obtain ⟨rf_3, rp_3⟩ := u_3
    have h := pr2_out hw
    have hP : va_P D vwCl [(a_br, .inr (0, [.ref a_st, .int rn, .int rf_3, .int rp_3])), (a_st, .inr (7, [.ref a_stb, .int sc])), (a_stb, .inl (cB, 8000, .inl sb))] H_3 := hP.sub [0, 1, 2] rfl
    have hD : va_D A [(a_br, .inr (0, [.ref a_st, .int rn, .int rf_3, .int rp_3])), (a_st, .inr (7, [.ref a_stb, .int sc])), (a_stb, .inl (cB, 8000, .inl sb))] := hD.sub [0, 1, 2] (by decide) rfl
    refine lv_iconst (v := (-1)) hx hb dX0_readNumber_37 (by decide) ?_
    exact hret (-1) (rn, rf_3, rp_3) _ _ _ _ dX0_readNumber_38 (vp_nar_int _) h hP hD hS
  refine lv_icmp_gt (tgt := 31) hx hb dX0_readNumber_15 (by decide) (fun c_4 => ?_) (fun c_4 => ?_)
  · have h := h.1 c_4
    exact hJ_2  H_1 _ _ h hP hD hS (lv_sub hl [2, 3, 4, 1, 0] rfl)
  · have h := h.2 c_4
    refine lv_aload_n hx hb dX0_readNumber_18 rfl (lv_at hl 2 rfl) ?_
    have hPc := hP.sub (ws' := [(a_br, .inr (0, [.ref a_st, .int rn, .int rf, .int rp])), (a_st, .inr (7, [.ref a_stb, .int sc])), (a_stb, .inl (cB, 8000, .inl sb))]) [0, 1, 2] rfl
    have hDc := hD.sub (ws' := [(a_br, .inr (0, [.ref a_st, .int rn, .int rf, .int rp])), (a_st, .inr (7, [.ref a_stb, .int sc])), (a_stb, .inl (cB, 8000, .inl sb))]) [0, 1, 2] (by decide) rfl
    have hFc := va_free (wc := [(a_br, .inr (0, [.ref a_st, .int rn, .int rf, .int rp])), (a_st, .inr (7, [.ref a_stb, .int sc])), (a_stb, .inl (cB, 8000, .inl sb))]) hD hS hA [0, 1, 2] rfl
    refine jm_calli (wr := []) (va_runV (As := []) (rest := []) ⟨hx, hb, hml, hown, hts⟩ (c_X0_left l D cI cB tt a_br a_st a_stb H_1.size rn rf rp sc sb h) (cwV 0 hts (jm_gV mw_325 mw_326 mw_327 mw_63 mw_328) rfl rfl rfl (by decide +kernel) ⟨Nat.le_of_ble_eq_true rfl, Nat.le_of_ble_eq_true rfl⟩) ⟨jm_blind, va_recv hK hPc (ci := 0) (q0 := 0) rfl rfl, jm_pre hK hE hS hPc hDc hFc _⟩ rfl rfl hl.1 rfl (lv_room (Nat.le_of_ble_eq_true rfl)) dX0_readNumber_19 ⟨Nat.zero_le _, Nat.zero_le _⟩) hS hP hD [0, 1, 2] [] rfl rfl (by decide) (by decide) hFc (fun r_5 u_5 H_5 locs hw hP hD hS => ?_)
    have h := hw
    have hP : va_P D vwCl [(a_br, .inr (0, [.ref a_st, .int rn, .int rf, .int rp])), (a_st, .inr (7, [.ref a_stb, .int sc])), (a_stb, .inl (cB, 8000, .inl sb))] H_5 := hP.sub [0, 1, 2] rfl
    have hD : va_D A [(a_br, .inr (0, [.ref a_st, .int rn, .int rf, .int rp])), (a_st, .inr (7, [.ref a_stb, .int sc])), (a_stb, .inl (cB, 8000, .inl sb))] := hD.sub [0, 1, 2] (by decide) rfl
    refine lv_iconst (v := 2) hx hb dX0_readNumber_22 (by decide) ?_
    refine lv_iload hx hb dX0_readNumber_23 (lv_at hl 0 rfl) ?_
    refine lv_imul hx hb dX0_readNumber_25 ?_
    refine lv_iconst (v := 1) hx hb dX0_readNumber_26 (by decide) ?_
    refine lv_iadd hx hb dX0_readNumber_27 ?_
    refine lv_icmp_ge (tgt := 39) hx hb dX0_readNumber_28 (by decide) (fun c_6 => ?_) (fun c_6 => ?_)
    · have h := h.1 c_6
      refine lv_aload_n hx hb dX0_readNumber_39 rfl (lv_at hl 2 rfl) ?_
      refine lv_dup hx hb dX0_readNumber_40 rfl ?_
      refine va_get (D := D) (ci := 0) (v := .int rn) (C := RX0) (T := TX0) (N := 4) hx hb hts iX0 hown hK hP 0 rfl rfl 1 (by decide) lk19 (fun _ h9 => h9) rfl dX0_readNumber_41 ?_
      refine lv_iload hx hb dX0_readNumber_44 (lv_at hl 0 rfl) ?_
      refine lv_iadd hx hb dX0_readNumber_46 ?_
      refine va_put (D := D) (ci := 0) (v := .int (rn + r_1)) (ty := .int) (C := RX0) (T := TX0) (N := 4) hx hb hts iX0 tyX0 tyX0_ok nmX0 hown hK hP hD hS 0 rfl rfl 1 (by decide) lk19 (fun _ h9 => h9) rfl (by decide +kernel) rfl rfl (Nat.le_of_ble_eq_true rfl) dX0_readNumber_47 (fun H_7 locs hP hD hS => ?_)
      have hP : va_P D vwCl [(a_br, .inr (0, [.ref a_st, .int (rn + r_1), .int rf, .int rp])), (a_st, .inr (7, [.ref a_stb, .int sc])), (a_stb, .inl (cB, 8000, .inl sb))] H_7 := hP
      have hD : va_D A [(a_br, .inr (0, [.ref a_st, .int (rn + r_1), .int rf, .int rp])), (a_st, .inr (7, [.ref a_stb, .int sc])), (a_stb, .inl (cB, 8000, .inl sb))] := hD
      refine lv_aload_n hx hb dX0_readNumber_50 rfl (lv_at hl 2 rfl) ?_
      refine lv_iload hx hb dX0_readNumber_51 (lv_at hl 0 rfl) ?_
      refine lv_iconst (v := 1) hx hb dX0_readNumber_53 (by decide) ?_
      refine lv_iadd hx hb dX0_readNumber_54 ?_
      have hPc := hP.sub (ws' := [(a_br, .inr (0, [.ref a_st, .int (rn + r_1), .int rf, .int rp])), (a_st, .inr (7, [.ref a_stb, .int sc])), (a_stb, .inl (cB, 8000, .inl sb))]) [0, 1, 2] rfl
      have hDc := hD.sub (ws' := [(a_br, .inr (0, [.ref a_st, .int (rn + r_1), .int rf, .int rp])), (a_st, .inr (7, [.ref a_stb, .int sc])), (a_stb, .inl (cB, 8000, .inl sb))]) [0, 1, 2] (by decide) rfl
      have hFc := va_free (wc := [(a_br, .inr (0, [.ref a_st, .int (rn + r_1), .int rf, .int rp])), (a_st, .inr (7, [.ref a_stb, .int sc])), (a_stb, .inl (cB, 8000, .inl sb))]) hD hS hA [0, 1, 2] rfl
      refine jm_calli (wr := []) (va_runV (As := [.int (r_1 + 1)]) (rest := []) ⟨hx, hb, hml, hown, hts⟩ (c_X0_readBits l D cI cB tt a_br a_st a_stb H_7.size (rn + r_1) rf rp sc sb (r_1 + 1) h) (cwV 1 hts (jm_gV mw_337 mw_338 mw_339 mw_63 mw_340) rfl rfl rfl (by decide +kernel) ⟨Nat.le_of_ble_eq_true rfl, Nat.le_of_ble_eq_true rfl⟩) ⟨jm_blind, va_recv hK hPc (ci := 0) (q0 := 0) rfl rfl, jm_pre hK hE hS hPc hDc hFc _⟩ rfl rfl hl.1 rfl (lv_room (Nat.le_of_ble_eq_true rfl)) dX0_readNumber_55 ⟨Nat.zero_le _, Nat.zero_le _⟩) hS hP hD [0, 1, 2] [] rfl rfl (by decide) (by decide) hFc (fun r_8 u_8 H_8 locs hw hP hD hS => ?_)
      obtain ⟨rn_8, rf_8, rp_8⟩ := u_8
      have h := pr3_out hw
      have hP : va_P D vwCl [(a_br, .inr (0, [.ref a_st, .int rn_8, .int rf_8, .int rp_8])), (a_st, .inr (7, [.ref a_stb, .int sc])), (a_stb, .inl (cB, 8000, .inl sb))] H_8 := hP.sub [0, 1, 2] rfl
      have hD : va_D A [(a_br, .inr (0, [.ref a_st, .int rn_8, .int rf_8, .int rp_8])), (a_st, .inr (7, [.ref a_stb, .int sc])), (a_stb, .inl (cB, 8000, .inl sb))] := hD.sub [0, 1, 2] (by decide) rfl
      refine lv_iconst (v := 1) hx hb dX0_readNumber_58 (by decide) ?_
      refine lv_isub hx hb dX0_readNumber_59 ?_
      refine lv_topi (fun x5_9 ex5_9 => ?_)
      have h := h x5_9 ex5_9
      refine lv_istore (lv' := [(5, .int x5_9), (4, .int r_1), (3, .int rn), (0, .ref a_br), (1, .int v1), (2, .int v2)]) hx hb dX0_readNumber_60 hl (by decide) rfl (fun ls hl => ?_)
      refine lv_iload hx hb dX0_readNumber_62 (lv_at hl 0 rfl) ?_
      refine lv_iload_n hx hb dX0_readNumber_64 rfl (lv_at hl 4 rfl) ?_
      refine lv_icmp_le (tgt := 76) hx hb dX0_readNumber_65 (by decide) (fun c_10 => ?_) (fun c_10 => ?_)
      · have h := h.1 c_10
        refine lv_iload hx hb dX0_readNumber_76 (lv_at hl 0 rfl) ?_
        exact hret x5_9 (rn_8, rf_8, rp_8) _ _ _ _ dX0_readNumber_78 (vp_nar_int _) h hP hD hS
      · have h := h.2 c_10
        refine lv_aload_n hx hb dX0_readNumber_68 rfl (lv_at hl 3 rfl) ?_
        refine lv_iload_n hx hb dX0_readNumber_69 rfl (lv_at hl 5 rfl) ?_
        refine lv_iload_n hx hb dX0_readNumber_70 rfl (lv_at hl 2 rfl) ?_
        have hPc := hP.sub (ws' := [(a_br, .inr (0, [.ref a_st, .int rn_8, .int rf_8, .int rp_8])), (a_st, .inr (7, [.ref a_stb, .int sc])), (a_stb, .inl (cB, 8000, .inl sb))]) [0, 1, 2] rfl
        have hDc := hD.sub (ws' := [(a_br, .inr (0, [.ref a_st, .int rn_8, .int rf_8, .int rp_8])), (a_st, .inr (7, [.ref a_stb, .int sc])), (a_stb, .inl (cB, 8000, .inl sb))]) [0, 1, 2] (by decide) rfl
        have hFc := va_free (wc := [(a_br, .inr (0, [.ref a_st, .int rn_8, .int rf_8, .int rp_8])), (a_st, .inr (7, [.ref a_stb, .int sc])), (a_stb, .inl (cB, 8000, .inl sb))]) hD hS hA [0, 1, 2] rfl
        refine jm_callv (wr := []) (va_runV (As := [.int v2, .int rn]) (rest := []) ⟨hx, hb, hml, hown, hts⟩ (c_X0_fail l D cI cB tt a_br a_st a_stb H_8.size rn_8 rf_8 rp_8 sc sb v2 rn h) (cwV 2 hts (jm_gV mw_333 mw_334 mw_335 mw_63 mw_336) rfl rfl rfl (by decide +kernel) ⟨Nat.le_of_ble_eq_true rfl, Nat.le_of_ble_eq_true rfl⟩) ⟨jm_blind, va_recv hK hPc (ci := 0) (q0 := 0) rfl rfl, jm_pre hK hE hS hPc hDc hFc _⟩ rfl rfl hl.1 rfl (lv_room (Nat.le_of_ble_eq_true rfl)) dX0_readNumber_71 ⟨Nat.zero_le _, Nat.zero_le _⟩) hS hP hD [0, 1, 2] [] rfl rfl (by decide) (by decide) hFc (fun u_11 H_11 locs hw hP hD hS => ?_)
        obtain ⟨rf_11, rp_11⟩ := u_11
        have h := pr2_out hw
        have hP : va_P D vwCl [(a_br, .inr (0, [.ref a_st, .int rn_8, .int rf_11, .int rp_11])), (a_st, .inr (7, [.ref a_stb, .int sc])), (a_stb, .inl (cB, 8000, .inl sb))] H_11 := hP.sub [0, 1, 2] rfl
        have hD : va_D A [(a_br, .inr (0, [.ref a_st, .int rn_8, .int rf_11, .int rp_11])), (a_st, .inr (7, [.ref a_stb, .int sc])), (a_stb, .inl (cB, 8000, .inl sb))] := hD.sub [0, 1, 2] (by decide) rfl
        refine lv_iconst (v := (-1)) hx hb dX0_readNumber_74 (by decide) ?_
        exact hret (-1) (rn_8, rf_11, rp_11) _ _ _ _ dX0_readNumber_75 (vp_nar_int _) h hP hD hS
    · have h := h.2 c_6
      exact hJ_2  H_5 _ _ h hP hD hS (lv_sub hl [2, 3, 4, 1, 0] rfl)
def wp_X0_readLevel (rn : Int32) (rf : Int32) (rp : Int32) (sc : Int32) (sb : (Nat → Int32)) (K : Int32 → Int32 → Int32 → Int32 → Prop) : Prop := wp_X0_readNumber rn rf rp sc sb 2147483647 6 (fun (r_1 : Int32) (rn_1 : Int32) (rf_1 : Int32) (rp_1 : Int32) => ((r_1 = (-1) → K 0 rn_1 rf_1 rp_1) ∧ (¬ r_1 = (-1) → ∀ x3_3 : Int32, x3_3 = (r_1 + 1) / 2 → jn0 (wp_X0_fail rf_1 rp_1 6 rn (fun (rf_5 : Int32) (rp_5 : Int32) => K 0 rn_1 rf_5 rp_5)) (fun J_4 => ((x3_3 = 0 → J_4) ∧ (¬ x3_3 = 0 → ((x3_3 ≤ 2048 → (((jrem r_1 2) = 1 → K x3_3 rn_1 rf_1 rp_1) ∧ (¬ (jrem r_1 2) = 1 → K (-x3_3) rn_1 rf_1 rp_1))) ∧ (¬ x3_3 ≤ 2048 → J_4))))))))
abbrev jw_X0_readLevel : List Cond := .code yX0_readLevel cX0_readLevel 4 (some .int) :: jmAll
abbrev rmX0_readLevel : Room := { frames := 3, cells := 0, slots := 0, locals := 70 }
set_option maxHeartbeats 4000000 in
set_option maxRecDepth 100000 in
theorem c_X0_readLevel (l : Launch) (D : va_G) (cI cB : ClassId) (tt : Nat × Nat × Nat) (a_br a_st a_stb : Nat) (sz : Nat) (rn : Int32) (rf : Int32) (rp : Int32) (sc : Int32) (sb : (Nat → Int32)) {K : Int32 → Int32 → Int32 → Int32 → Prop} (h : wp_X0_readLevel rn rf rp sc sb K) : Met l yX0_readLevel jw_X0_readLevel rmX0_readLevel (va_Pc [.ref a_br] (jm_Pre D cI cB tt (wd_br_st_stb cI cB a_br a_st a_stb rn rf rp sc sb) sz)) (va_Qi (fun (r : Int32) (u : Int32 × Int32 × Int32) => pr3 (K r) u) (jm_Post D cI cB (wd_br_st_stb cI cB a_br a_st a_stb rn rf rp sc sb) sz (fun (u : Int32 × Int32 × Int32) => wd_br_st_stb cI cB a_br a_st a_stb u.1 u.2.1 u.2.2 sc sb)) (va_A (wd_br_st_stb cI cB a_br a_st a_stb rn rf rp sc sb) sz)) 0 0 (va_A (wd_br_st_stb cI cB a_br a_st a_stb rn rf rp sc sb) sz) := by
  refine jm_metI (by decide +kernel) rfl rfl (Nat.le_of_ble_eq_true rfl) ?_
  intro p e s m args below meth c A Q ls C0 hP hD hl hret
  obtain ⟨hx, hb, hml, hr, hown, hts, hlocks, hA, hK, hE⟩ := C0
  have hS : va_S A s.heap s.heap [] := va_S.rf
  have hl : lv_has ls 4 [(0, .ref a_br)] := hl
  unfold wp_X0_readLevel at h
  have hP : va_P D vwCl [(a_br, .inr (0, [.ref a_st, .int rn, .int rf, .int rp])), (a_st, .inr (7, [.ref a_stb, .int sc])), (a_stb, .inl (cB, 8000, .inl sb))] s.heap := hP
  have hD : va_D A [(a_br, .inr (0, [.ref a_st, .int rn, .int rf, .int rp])), (a_st, .inr (7, [.ref a_stb, .int sc])), (a_stb, .inl (cB, 8000, .inl sb))] := hD
  have iX0 : ∀ w ∈ wsX00, w ∈ jw_X0_readLevel := fun w h => List.mem_cons_of_mem _ (jm_iX0 w h)
  have lk19 := hts (.fieldLink RX0 19 "IntraMill$BitReader" "next" "I") (List.mem_cons_of_mem _ mw_198)
  refine lv_aload_n hx hb dX0_readLevel_0 rfl (lv_at hl 0 rfl) ?_
  refine va_get (D := D) (ci := 0) (v := .int rn) (C := RX0) (T := TX0) (N := 4) hx hb hts iX0 hown hK hP 0 rfl rfl 1 (by decide) lk19 (fun _ h9 => h9) rfl dX0_readLevel_1 ?_
  refine lv_istore_n (lv' := [(1, .int rn), (0, .ref a_br)]) hx hb dX0_readLevel_4 rfl hl (by decide) rfl (fun ls hl => ?_)
  refine lv_aload_n hx hb dX0_readLevel_5 rfl (lv_at hl 1 rfl) ?_
  refine lv_ldc (own := RX0) (v := 2147483647) hx hb hown (hts (.constant RX0 50 (2147483647)) (List.mem_cons_of_mem _ mw_380)) dX0_readLevel_6 ?_
  refine lv_bipush (v := 6) hx hb dX0_readLevel_8 (by decide) ?_
  have hPc := hP.sub (ws' := [(a_br, .inr (0, [.ref a_st, .int rn, .int rf, .int rp])), (a_st, .inr (7, [.ref a_stb, .int sc])), (a_stb, .inl (cB, 8000, .inl sb))]) [0, 1, 2] rfl
  have hDc := hD.sub (ws' := [(a_br, .inr (0, [.ref a_st, .int rn, .int rf, .int rp])), (a_st, .inr (7, [.ref a_stb, .int sc])), (a_stb, .inl (cB, 8000, .inl sb))]) [0, 1, 2] (by decide) rfl
  have hFc := va_free (wc := [(a_br, .inr (0, [.ref a_st, .int rn, .int rf, .int rp])), (a_st, .inr (7, [.ref a_stb, .int sc])), (a_stb, .inl (cB, 8000, .inl sb))]) hD hS hA [0, 1, 2] rfl
  refine jm_calli (wr := []) (va_runV (As := [.int 2147483647, .int 6]) (rest := []) ⟨hx, hb, hml, hown, hts⟩ (c_X0_readNumber l D cI cB tt a_br a_st a_stb s.heap.size rn rf rp sc sb 2147483647 6 h) (cwV 2 hts (jm_gV mw_381 mw_318 mw_319 mw_63 mw_320) rfl rfl rfl (by decide +kernel) ⟨Nat.le_of_ble_eq_true rfl, Nat.le_of_ble_eq_true rfl⟩) ⟨jm_blind, va_recv hK hPc (ci := 0) (q0 := 0) rfl rfl, jm_pre hK hE hS hPc hDc hFc _⟩ rfl rfl hl.1 rfl (lv_room (Nat.le_of_ble_eq_true rfl)) dX0_readLevel_10 ⟨Nat.zero_le _, Nat.zero_le _⟩) hS hP hD [0, 1, 2] [] rfl rfl (by decide) (by decide) hFc (fun r_1 u_1 H_1 locs hw hP hD hS => ?_)
  obtain ⟨rn_1, rf_1, rp_1⟩ := u_1
  have h := pr3_out hw
  have hP : va_P D vwCl [(a_br, .inr (0, [.ref a_st, .int rn_1, .int rf_1, .int rp_1])), (a_st, .inr (7, [.ref a_stb, .int sc])), (a_stb, .inl (cB, 8000, .inl sb))] H_1 := hP.sub [0, 1, 2] rfl
  have hD : va_D A [(a_br, .inr (0, [.ref a_st, .int rn_1, .int rf_1, .int rp_1])), (a_st, .inr (7, [.ref a_stb, .int sc])), (a_stb, .inl (cB, 8000, .inl sb))] := hD.sub [0, 1, 2] (by decide) rfl
  refine lv_istore_n (lv' := [(2, .int r_1), (1, .int rn), (0, .ref a_br)]) hx hb dX0_readLevel_13 rfl hl (by decide) rfl (fun ls hl => ?_)
  refine lv_iload_n hx hb dX0_readLevel_14 rfl (lv_at hl 0 rfl) ?_
  refine lv_iconst (v := (-1)) hx hb dX0_readLevel_15 (by decide) ?_
  refine lv_icmp_ne (tgt := 21) hx hb dX0_readLevel_16 (by decide) (fun c_2 => ?_) (fun c_2 => ?_)
  · have h := h.2 c_2
    refine lv_iload_n hx hb dX0_readLevel_21 rfl (lv_at hl 0 rfl) ?_
    refine lv_iconst (v := 1) hx hb dX0_readLevel_22 (by decide) ?_
    refine lv_iadd hx hb dX0_readLevel_23 ?_
    refine lv_iconst (v := 2) hx hb dX0_readLevel_24 (by decide) ?_
    refine lv_idiv hx hb dX0_readLevel_25 (by decide) ?_
    refine lv_topi (fun x3_3 ex3_3 => ?_)
    have h := h x3_3 ex3_3
    refine lv_istore_n (lv' := [(3, .int x3_3), (2, .int r_1), (1, .int rn), (0, .ref a_br)]) hx hb dX0_readLevel_26 rfl hl (by decide) rfl (fun ls hl => ?_)
    refine lv_iload_n hx hb dX0_readLevel_27 rfl (lv_at hl 0 rfl) ?_
    obtain ⟨J_4, hj_4, h⟩ := jn0_out h
    have hJ_4 : ∀ (H : Heap) (locs : List Loc) (ls : Array Slot), J_4 → va_P D vwCl [(a_br, .inr (0, [.ref a_st, .int rn_1, .int rf_1, .int rp_1])), (a_st, .inr (7, [.ref a_stb, .int sc])), (a_stb, .inl (cB, 8000, .inl sb))] H → va_D A [(a_br, .inr (0, [.ref a_st, .int rn_1, .int rf_1, .int rp_1])), (a_st, .inr (7, [.ref a_stb, .int sc])), (a_stb, .inl (cB, 8000, .inl sb))] → va_S A s.heap H locs → lv_has ls 4 [(0, .ref a_br), (1, .int rn), (2, .int r_1), (3, .int x3_3)] → W p l e rmX0_readLevel s m args below meth c H locs 0 0 Q (F0 m 38 ls []) := by
      intro  H locs ls h hP hD hS hl
      have h := hj_4 h
      refine lv_aload_n hx hb dX0_readLevel_38 rfl (lv_at hl 0 rfl) ?_
      refine lv_bipush (v := 6) hx hb dX0_readLevel_39 (by decide) ?_
      refine lv_iload_n hx hb dX0_readLevel_41 rfl (lv_at hl 1 rfl) ?_
      have hPc := hP.sub (ws' := [(a_br, .inr (0, [.ref a_st, .int rn_1, .int rf_1, .int rp_1])), (a_st, .inr (7, [.ref a_stb, .int sc])), (a_stb, .inl (cB, 8000, .inl sb))]) [0, 1, 2] rfl
      have hDc := hD.sub (ws' := [(a_br, .inr (0, [.ref a_st, .int rn_1, .int rf_1, .int rp_1])), (a_st, .inr (7, [.ref a_stb, .int sc])), (a_stb, .inl (cB, 8000, .inl sb))]) [0, 1, 2] (by decide) rfl
      have hFc := va_free (wc := [(a_br, .inr (0, [.ref a_st, .int rn_1, .int rf_1, .int rp_1])), (a_st, .inr (7, [.ref a_stb, .int sc])), (a_stb, .inl (cB, 8000, .inl sb))]) hD hS hA [0, 1, 2] rfl
      refine jm_callv (wr := []) (va_runV (As := [.int 6, .int rn]) (rest := []) ⟨hx, hb, hml, hown, hts⟩ (c_X0_fail l D cI cB tt a_br a_st a_stb H.size rn_1 rf_1 rp_1 sc sb 6 rn h) (cwV 2 hts (jm_gV mw_333 mw_334 mw_335 mw_63 mw_336) rfl rfl rfl (by decide +kernel) ⟨Nat.le_of_ble_eq_true rfl, Nat.le_of_ble_eq_true rfl⟩) ⟨jm_blind, va_recv hK hPc (ci := 0) (q0 := 0) rfl rfl, jm_pre hK hE hS hPc hDc hFc _⟩ rfl rfl hl.1 rfl (lv_room (Nat.le_of_ble_eq_true rfl)) dX0_readLevel_42 ⟨Nat.zero_le _, Nat.zero_le _⟩) hS hP hD [0, 1, 2] [] rfl rfl (by decide) (by decide) hFc (fun u_5 H_5 locs hw hP hD hS => ?_)
      obtain ⟨rf_5, rp_5⟩ := u_5
      have h := pr2_out hw
      have hP : va_P D vwCl [(a_br, .inr (0, [.ref a_st, .int rn_1, .int rf_5, .int rp_5])), (a_st, .inr (7, [.ref a_stb, .int sc])), (a_stb, .inl (cB, 8000, .inl sb))] H_5 := hP.sub [0, 1, 2] rfl
      have hD : va_D A [(a_br, .inr (0, [.ref a_st, .int rn_1, .int rf_5, .int rp_5])), (a_st, .inr (7, [.ref a_stb, .int sc])), (a_stb, .inl (cB, 8000, .inl sb))] := hD.sub [0, 1, 2] (by decide) rfl
      refine lv_iconst (v := 0) hx hb dX0_readLevel_45 (by decide) ?_
      exact hret 0 (rn_1, rf_5, rp_5) _ _ _ _ dX0_readLevel_46 (vp_nar_int _) h hP hD hS
    refine lv_if_eq (tgt := 38) hx hb dX0_readLevel_28 (by decide) (fun c_6 => ?_) (fun c_6 => ?_)
    · have h := h.1 c_6
      exact hJ_4  H_1 _ _ h hP hD hS (lv_sub hl [3, 2, 1, 0] rfl)
    · have h := h.2 c_6
      refine lv_iload_n hx hb dX0_readLevel_31 rfl (lv_at hl 0 rfl) ?_
      refine lv_sipush (v := 2048) hx hb dX0_readLevel_32 (by decide) ?_
      refine lv_icmp_le (tgt := 47) hx hb dX0_readLevel_35 (by decide) (fun c_7 => ?_) (fun c_7 => ?_)
      · have h := h.1 c_7
        refine lv_iload_n hx hb dX0_readLevel_47 rfl (lv_at hl 1 rfl) ?_
        refine lv_iconst (v := 2) hx hb dX0_readLevel_48 (by decide) ?_
        refine lv_irem hx hb dX0_readLevel_49 (by decide) ?_
        refine lv_iconst (v := 1) hx hb dX0_readLevel_50 (by decide) ?_
        refine lv_icmp_ne (tgt := 58) hx hb dX0_readLevel_51 (by decide) (fun c_8 => ?_) (fun c_8 => ?_)
        · have h := h.2 c_8
          refine lv_iload_n hx hb dX0_readLevel_58 rfl (lv_at hl 0 rfl) ?_
          refine lv_ineg hx hb dX0_readLevel_59 ?_
          exact hret (-x3_3) (rn_1, rf_1, rp_1) _ _ _ _ dX0_readLevel_60 (vp_nar_int _) h hP hD hS
        · have h := h.1 c_8
          refine lv_iload_n hx hb dX0_readLevel_54 rfl (lv_at hl 0 rfl) ?_
          refine lv_goto (tgt := 60) hx hb dX0_readLevel_55 (by decide) ?_
          exact hret x3_3 (rn_1, rf_1, rp_1) _ _ _ _ dX0_readLevel_60 (vp_nar_int _) h hP hD hS
      · have h := h.2 c_7
        exact hJ_4  H_1 _ _ h hP hD hS (lv_sub hl [3, 2, 1, 0] rfl)
  · have h := h.1 c_2
    refine lv_iconst (v := 0) hx hb dX0_readLevel_19 (by decide) ?_
    exact hret 0 (rn_1, rf_1, rp_1) _ _ _ _ dX0_readLevel_20 (vp_nar_int _) h hP hD hS
def wl_X0_endsClean_17 (rn : Int32) (sc : Int32) (sb : (Nat → Int32)) (K : Int32 → Int32 → Int32 → Prop) (X : Int32 → Int32 → Prop) : Nat → Int32 → Int32 → Prop
  | 0, _, _ => False
  | n + 1, v1, v2 => ((v1 = 0 → X v1 v2) ∧ (¬ v1 = 0 → wp_X0_left rn sc (fun (r_4 : Int32) => ((r_4 ≤ v2 → X v1 v2) ∧ (¬ r_4 ≤ v2 → wp_X7_bitAt sb (rn + v2) (fun (r_6 : Int32) => jn1 (fun (t0_7 : Int32) => ∀ x2_8 : Int32, x2_8 = v2 + 1 → wl_X0_endsClean_17 rn sc sb K X n t0_7 x2_8) (fun J_7 => ((r_6 = 0 → J_7 1) ∧ (¬ r_6 = 0 → J_7 0)))))))))
def wp_X0_endsClean (rn : Int32) (rf : Int32) (rp : Int32) (sc : Int32) (sb : (Nat → Int32)) (K : Int32 → Int32 → Int32 → Prop) : Prop := wp_X0_left rn sc (fun (r_1 : Int32) => jn1 (fun (t0_2 : Int32) => ∃ k : Nat, wl_X0_endsClean_17 rn sc sb K (fun (v1_10 : Int32) (v2_10 : Int32) => ((v1_10 = 0 → wp_X0_fail rf rp 7 rn (fun (rf_13 : Int32) (rp_13 : Int32) => jz v1_10 ∧ K v1_10 rf_13 rp_13)) ∧ (¬ v1_10 = 0 → jz v1_10 ∧ K v1_10 rf rp))) k t0_2 0) (fun J_2 => ((8 ≤ r_1 → J_2 0) ∧ (¬ 8 ≤ r_1 → J_2 1))))
abbrev jw_X0_endsClean : List Cond := .code yX0_endsClean cX0_endsClean 3 (some .boolean) :: jmAll
abbrev rmX0_endsClean : Room := { frames := 1, cells := 0, slots := 0, locals := 22 }
set_option maxHeartbeats 4000000 in
set_option maxRecDepth 100000 in
theorem c_X0_endsClean (l : Launch) (D : va_G) (cI cB : ClassId) (tt : Nat × Nat × Nat) (a_br a_st a_stb : Nat) (sz : Nat) (rn : Int32) (rf : Int32) (rp : Int32) (sc : Int32) (sb : (Nat → Int32)) {K : Int32 → Int32 → Int32 → Prop} (h : wp_X0_endsClean rn rf rp sc sb K) : Met l yX0_endsClean jw_X0_endsClean rmX0_endsClean (va_Pc [.ref a_br] (jm_Pre D cI cB tt (wd_br_st_stb cI cB a_br a_st a_stb rn rf rp sc sb) sz)) (va_Qi (fun (r : Int32) (u : Int32 × Int32) => pr2 (K r) u) (jm_Post D cI cB (wd_br_st_stb cI cB a_br a_st a_stb rn rf rp sc sb) sz (fun (u : Int32 × Int32) => wd_br_st_stb cI cB a_br a_st a_stb rn u.1 u.2 sc sb)) (va_A (wd_br_st_stb cI cB a_br a_st a_stb rn rf rp sc sb) sz)) 0 0 (va_A (wd_br_st_stb cI cB a_br a_st a_stb rn rf rp sc sb) sz) := by
  refine jm_metI (by decide +kernel) rfl rfl (Nat.le_of_ble_eq_true rfl) ?_
  intro p e s m args below meth c A Q ls C0 hP hD hl hret
  obtain ⟨hx, hb, hml, hr, hown, hts, hlocks, hA, hK, hE⟩ := C0
  have hS : va_S A s.heap s.heap [] := va_S.rf
  have hl : lv_has ls 3 [(0, .ref a_br)] := hl
  unfold wp_X0_endsClean at h
  have hP : va_P D vwCl [(a_br, .inr (0, [.ref a_st, .int rn, .int rf, .int rp])), (a_st, .inr (7, [.ref a_stb, .int sc])), (a_stb, .inl (cB, 8000, .inl sb))] s.heap := hP
  have hD : va_D A [(a_br, .inr (0, [.ref a_st, .int rn, .int rf, .int rp])), (a_st, .inr (7, [.ref a_stb, .int sc])), (a_stb, .inl (cB, 8000, .inl sb))] := hD
  have iX0 : ∀ w ∈ wsX00, w ∈ jw_X0_endsClean := fun w h => List.mem_cons_of_mem _ (jm_iX0 w h)
  have lk15 := hts (.fieldLink RX0 15 "IntraMill$BitReader" "store" "LIntraMill$Store;") (List.mem_cons_of_mem _ mw_197)
  have lk19 := hts (.fieldLink RX0 19 "IntraMill$BitReader" "next" "I") (List.mem_cons_of_mem _ mw_198)
  refine lv_aload_n hx hb dX0_endsClean_0 rfl (lv_at hl 0 rfl) ?_
  have hPc := hP.sub (ws' := [(a_br, .inr (0, [.ref a_st, .int rn, .int rf, .int rp])), (a_st, .inr (7, [.ref a_stb, .int sc])), (a_stb, .inl (cB, 8000, .inl sb))]) [0, 1, 2] rfl
  have hDc := hD.sub (ws' := [(a_br, .inr (0, [.ref a_st, .int rn, .int rf, .int rp])), (a_st, .inr (7, [.ref a_stb, .int sc])), (a_stb, .inl (cB, 8000, .inl sb))]) [0, 1, 2] (by decide) rfl
  have hFc := va_free (wc := [(a_br, .inr (0, [.ref a_st, .int rn, .int rf, .int rp])), (a_st, .inr (7, [.ref a_stb, .int sc])), (a_stb, .inl (cB, 8000, .inl sb))]) hD hS hA [0, 1, 2] rfl
  refine jm_calli (wr := []) (va_runV (As := []) (rest := []) ⟨hx, hb, hml, hown, hts⟩ (c_X0_left l D cI cB tt a_br a_st a_stb s.heap.size rn rf rp sc sb h) (cwV 0 hts (jm_gV mw_325 mw_326 mw_327 mw_63 mw_328) rfl rfl rfl (by decide +kernel) ⟨Nat.le_of_ble_eq_true rfl, Nat.le_of_ble_eq_true rfl⟩) ⟨jm_blind, va_recv hK hPc (ci := 0) (q0 := 0) rfl rfl, jm_pre hK hE hS hPc hDc hFc _⟩ rfl rfl hl.1 rfl (lv_room (Nat.le_of_ble_eq_true rfl)) dX0_endsClean_1 ⟨Nat.zero_le _, Nat.zero_le _⟩) hS hP hD [0, 1, 2] [] rfl rfl (by decide) (by decide) hFc (fun r_1 u_1 H_1 locs hw hP hD hS => ?_)
  have h := hw
  have hP : va_P D vwCl [(a_br, .inr (0, [.ref a_st, .int rn, .int rf, .int rp])), (a_st, .inr (7, [.ref a_stb, .int sc])), (a_stb, .inl (cB, 8000, .inl sb))] H_1 := hP.sub [0, 1, 2] rfl
  have hD : va_D A [(a_br, .inr (0, [.ref a_st, .int rn, .int rf, .int rp])), (a_st, .inr (7, [.ref a_stb, .int sc])), (a_stb, .inl (cB, 8000, .inl sb))] := hD.sub [0, 1, 2] (by decide) rfl
  refine lv_bipush (v := 8) hx hb dX0_endsClean_4 (by decide) ?_
  obtain ⟨J_2, hj_2, h⟩ := jn1_out h
  have hJ_2 : ∀ (t0_2 : Int32), ∀ (H : Heap) (locs : List Loc) (ls : Array Slot), J_2 t0_2 → va_P D vwCl [(a_br, .inr (0, [.ref a_st, .int rn, .int rf, .int rp])), (a_st, .inr (7, [.ref a_stb, .int sc])), (a_stb, .inl (cB, 8000, .inl sb))] H → va_D A [(a_br, .inr (0, [.ref a_st, .int rn, .int rf, .int rp])), (a_st, .inr (7, [.ref a_stb, .int sc])), (a_stb, .inl (cB, 8000, .inl sb))] → va_S A s.heap H locs → lv_has ls 3 [(0, .ref a_br)] → W p l e rmX0_endsClean s m args below meth c H locs 0 0 Q (F0 m 14 ls [.int t0_2]) := by
    intro t0_2 H locs ls h hP hD hS hl
    have h := hj_2 t0_2 h
    refine lv_istore_n (lv' := [(1, .int t0_2), (0, .ref a_br)]) hx hb dX0_endsClean_14 rfl hl (by decide) rfl (fun ls hl => ?_)
    refine lv_iconst (v := 0) hx hb dX0_endsClean_15 (by decide) ?_
    refine lv_istore_n (lv' := [(2, .int 0), (1, .int t0_2), (0, .ref a_br)]) hx hb dX0_endsClean_16 rfl hl (by decide) rfl (fun ls hl => ?_)
    obtain ⟨n_10, h⟩ := h
    have hL_10 : ∀ (rf : Int32) (rp : Int32) (X : Int32 → Int32 → Prop), (∀ (v1 : Int32) (v2 : Int32), ∀ (H : Heap) (locs : List Loc) (ls : Array Slot), X v1 v2 → va_P D vwCl [(a_br, .inr (0, [.ref a_st, .int rn, .int rf, .int rp])), (a_st, .inr (7, [.ref a_stb, .int sc])), (a_stb, .inl (cB, 8000, .inl sb))] H → va_D A [(a_br, .inr (0, [.ref a_st, .int rn, .int rf, .int rp])), (a_st, .inr (7, [.ref a_stb, .int sc])), (a_stb, .inl (cB, 8000, .inl sb))] → va_S A s.heap H locs → lv_has ls 3 [(0, .ref a_br), (1, .int v1), (2, .int v2)] → W p l e rmX0_endsClean s m args below meth c H locs 0 0 Q (F0 m 57 ls [])) → ∀ (n : Nat) (v1 : Int32) (v2 : Int32), ∀ (H : Heap) (locs : List Loc) (ls : Array Slot), wl_X0_endsClean_17 rn sc sb K X n v1 v2 → va_P D vwCl [(a_br, .inr (0, [.ref a_st, .int rn, .int rf, .int rp])), (a_st, .inr (7, [.ref a_stb, .int sc])), (a_stb, .inl (cB, 8000, .inl sb))] H → va_D A [(a_br, .inr (0, [.ref a_st, .int rn, .int rf, .int rp])), (a_st, .inr (7, [.ref a_stb, .int sc])), (a_stb, .inl (cB, 8000, .inl sb))] → va_S A s.heap H locs → lv_has ls 3 [(0, .ref a_br), (1, .int v1), (2, .int v2)] → W p l e rmX0_endsClean s m args below meth c H locs 0 0 Q (F0 m 17 ls []) := by
      intro rf rp X hX n
      induction n with
      | zero => intro v1 v2 H locs ls h; rw [wl_X0_endsClean_17] at h; exact h.elim
      | succ n ih =>
        intro v1 v2 H locs ls h hP hD hS hl
        rw [wl_X0_endsClean_17] at h
        refine lv_iload_n hx hb dX0_endsClean_17 rfl (lv_at hl 1 rfl) ?_
        refine lv_if_eq (tgt := 57) hx hb dX0_endsClean_18 (by decide) (fun c_3 => ?_) (fun c_3 => ?_)
        · have h := h.1 c_3
          exact hX v1 v2 H _ _ h hP hD hS (lv_sub hl [0, 1, 2] rfl)
        · have h := h.2 c_3
          refine lv_iload_n hx hb dX0_endsClean_21 rfl (lv_at hl 2 rfl) ?_
          refine lv_aload_n hx hb dX0_endsClean_22 rfl (lv_at hl 0 rfl) ?_
          have hPc := hP.sub (ws' := [(a_br, .inr (0, [.ref a_st, .int rn, .int rf, .int rp])), (a_st, .inr (7, [.ref a_stb, .int sc])), (a_stb, .inl (cB, 8000, .inl sb))]) [0, 1, 2] rfl
          have hDc := hD.sub (ws' := [(a_br, .inr (0, [.ref a_st, .int rn, .int rf, .int rp])), (a_st, .inr (7, [.ref a_stb, .int sc])), (a_stb, .inl (cB, 8000, .inl sb))]) [0, 1, 2] (by decide) rfl
          have hFc := va_free (wc := [(a_br, .inr (0, [.ref a_st, .int rn, .int rf, .int rp])), (a_st, .inr (7, [.ref a_stb, .int sc])), (a_stb, .inl (cB, 8000, .inl sb))]) hD hS hA [0, 1, 2] rfl
          refine jm_calli (wr := []) (va_runV (As := []) (rest := [.int v2]) ⟨hx, hb, hml, hown, hts⟩ (c_X0_left l D cI cB tt a_br a_st a_stb H.size rn rf rp sc sb h) (cwV 0 hts (jm_gV mw_325 mw_326 mw_327 mw_63 mw_328) rfl rfl rfl (by decide +kernel) ⟨Nat.le_of_ble_eq_true rfl, Nat.le_of_ble_eq_true rfl⟩) ⟨jm_blind, va_recv hK hPc (ci := 0) (q0 := 0) rfl rfl, jm_pre hK hE hS hPc hDc hFc _⟩ rfl rfl hl.1 rfl (lv_room (Nat.le_of_ble_eq_true rfl)) dX0_endsClean_23 ⟨Nat.zero_le _, Nat.zero_le _⟩) hS hP hD [0, 1, 2] [] rfl rfl (by decide) (by decide) hFc (fun r_4 u_4 H_4 locs hw hP hD hS => ?_)
          have h := hw
          have hP : va_P D vwCl [(a_br, .inr (0, [.ref a_st, .int rn, .int rf, .int rp])), (a_st, .inr (7, [.ref a_stb, .int sc])), (a_stb, .inl (cB, 8000, .inl sb))] H_4 := hP.sub [0, 1, 2] rfl
          have hD : va_D A [(a_br, .inr (0, [.ref a_st, .int rn, .int rf, .int rp])), (a_st, .inr (7, [.ref a_stb, .int sc])), (a_stb, .inl (cB, 8000, .inl sb))] := hD.sub [0, 1, 2] (by decide) rfl
          refine lv_icmp_ge (tgt := 57) hx hb dX0_endsClean_26 (by decide) (fun c_5 => ?_) (fun c_5 => ?_)
          · have h := h.1 c_5
            exact hX v1 v2 H_4 _ _ h hP hD hS (lv_sub hl [0, 1, 2] rfl)
          · have h := h.2 c_5
            refine lv_aload_n hx hb dX0_endsClean_29 rfl (lv_at hl 0 rfl) ?_
            refine va_get (D := D) (ci := 0) (v := .ref a_st) (C := RX0) (T := TX0) (N := 4) hx hb hts iX0 hown hK hP 0 rfl rfl 0 (by decide) lk15 (fun _ h9 => h9) rfl dX0_endsClean_30 ?_
            refine lv_aload_n hx hb dX0_endsClean_33 rfl (lv_at hl 0 rfl) ?_
            refine va_get (D := D) (ci := 0) (v := .int rn) (C := RX0) (T := TX0) (N := 4) hx hb hts iX0 hown hK hP 0 rfl rfl 1 (by decide) lk19 (fun _ h9 => h9) rfl dX0_endsClean_34 ?_
            refine lv_iload_n hx hb dX0_endsClean_37 rfl (lv_at hl 2 rfl) ?_
            refine lv_iadd hx hb dX0_endsClean_38 ?_
            have hPc := hP.sub (ws' := [(a_st, .inr (7, [.ref a_stb, .int sc])), (a_stb, .inl (cB, 8000, .inl sb))]) [1, 2] rfl
            have hDc := hD.sub (ws' := [(a_st, .inr (7, [.ref a_stb, .int sc])), (a_stb, .inl (cB, 8000, .inl sb))]) [1, 2] (by decide) rfl
            have hFc := va_free (wc := [(a_st, .inr (7, [.ref a_stb, .int sc])), (a_stb, .inl (cB, 8000, .inl sb))]) hD hS hA [1, 2] rfl
            refine jm_calli (wr := [(a_br, .inr (0, [.ref a_st, .int rn, .int rf, .int rp]))]) (va_runV (As := [.int (rn + v2)]) (rest := []) ⟨hx, hb, hml, hown, hts⟩ (c_X7_bitAt l D cI cB tt a_st a_stb H_4.size sc sb (rn + v2) h) (cwV 1 hts (jm_gV mw_329 mw_330 mw_331 mw_60 mw_332) rfl rfl rfl (by decide +kernel) ⟨Nat.le_of_ble_eq_true rfl, Nat.le_of_ble_eq_true rfl⟩) ⟨jm_blind, va_recv hK hPc (ci := 7) (q0 := 0) rfl rfl, jm_pre hK hE hS hPc hDc hFc _⟩ rfl rfl hl.1 rfl (lv_room (Nat.le_of_ble_eq_true rfl)) dX0_endsClean_39 ⟨Nat.zero_le _, Nat.zero_le _⟩) hS hP hD [1, 2] [0] rfl rfl (by decide) (by decide) hFc (fun r_6 u_6 H_6 locs hw hP hD hS => ?_)
            have h := hw
            have hP : va_P D vwCl [(a_br, .inr (0, [.ref a_st, .int rn, .int rf, .int rp])), (a_st, .inr (7, [.ref a_stb, .int sc])), (a_stb, .inl (cB, 8000, .inl sb))] H_6 := hP.sub [0, 1, 2] rfl
            have hD : va_D A [(a_br, .inr (0, [.ref a_st, .int rn, .int rf, .int rp])), (a_st, .inr (7, [.ref a_stb, .int sc])), (a_stb, .inl (cB, 8000, .inl sb))] := hD.sub [0, 1, 2] (by decide) rfl
            obtain ⟨J_7, hj_7, h⟩ := jn1_out h
            have hJ_7 : ∀ (t0_7 : Int32), ∀ (H : Heap) (locs : List Loc) (ls : Array Slot), J_7 t0_7 → va_P D vwCl [(a_br, .inr (0, [.ref a_st, .int rn, .int rf, .int rp])), (a_st, .inr (7, [.ref a_stb, .int sc])), (a_stb, .inl (cB, 8000, .inl sb))] H → va_D A [(a_br, .inr (0, [.ref a_st, .int rn, .int rf, .int rp])), (a_st, .inr (7, [.ref a_stb, .int sc])), (a_stb, .inl (cB, 8000, .inl sb))] → va_S A s.heap H locs → lv_has ls 3 [(0, .ref a_br), (1, .int v1), (2, .int v2)] → W p l e rmX0_endsClean s m args below meth c H locs 0 0 Q (F0 m 50 ls [.int t0_7]) := by
              intro t0_7 H locs ls h hP hD hS hl
              have h := hj_7 t0_7 h
              refine lv_istore_n (lv' := [(1, .int t0_7), (0, .ref a_br), (2, .int v2)]) hx hb dX0_endsClean_50 rfl hl (by decide) rfl (fun ls hl => ?_)
              obtain ⟨x2_8, ex2_8⟩ : ∃ y : Int32, y = v2 + 1 := ⟨_, rfl⟩
              have h := h x2_8 ex2_8
              refine lv_iinc (v := x2_8) (lv' := [(2, .int x2_8), (1, .int t0_7), (0, .ref a_br)]) hx hb dX0_endsClean_51 hl (k := 2) rfl (by rw [ex2_8]; rfl) (by decide) rfl (fun ls hl => ?_)
              refine lv_goto (tgt := 17) hx hb dX0_endsClean_54 (by decide) ?_
              exact ih t0_7 x2_8 H _ _ h hP hD hS (lv_sub hl [2, 1, 0] rfl)
            refine lv_if_ne (tgt := 49) hx hb dX0_endsClean_42 (by decide) (fun c_9 => ?_) (fun c_9 => ?_)
            · have h := h.2 c_9
              refine lv_iconst (v := 0) hx hb dX0_endsClean_49 (by decide) ?_
              exact hJ_7 0 H_6 _ _ h hP hD hS (lv_sub hl [0, 1, 2] rfl)
            · have h := h.1 c_9
              refine lv_iconst (v := 1) hx hb dX0_endsClean_45 (by decide) ?_
              refine lv_goto (tgt := 50) hx hb dX0_endsClean_46 (by decide) ?_
              exact hJ_7 1 H_6 _ _ h hP hD hS (lv_sub hl [0, 1, 2] rfl)
    refine hL_10 rf rp _ ?_ n_10 t0_2 0 H _ _ h hP hD hS (lv_sub hl [2, 1, 0] rfl)
    intro v1_10 v2_10 H locs ls h hP hD hS hl
    refine lv_iload_n hx hb dX0_endsClean_57 rfl (lv_at hl 1 rfl) ?_
    refine lv_if_ne (tgt := 71) hx hb dX0_endsClean_58 (by decide) (fun c_11 => ?_) (fun c_11 => ?_)
    · have h := h.2 c_11
      refine lv_iload_n hx hb dX0_endsClean_71 rfl (lv_at hl 1 rfl) ?_
      obtain ⟨hz_12, h⟩ := h
      exact hret v1_10 (rf, rp) _ _ _ _ dX0_endsClean_72 hz_12.1 h hP hD hS
    · have h := h.1 c_11
      refine lv_aload_n hx hb dX0_endsClean_61 rfl (lv_at hl 0 rfl) ?_
      refine lv_bipush (v := 7) hx hb dX0_endsClean_62 (by decide) ?_
      refine lv_aload_n hx hb dX0_endsClean_64 rfl (lv_at hl 0 rfl) ?_
      refine va_get (D := D) (ci := 0) (v := .int rn) (C := RX0) (T := TX0) (N := 4) hx hb hts iX0 hown hK hP 0 rfl rfl 1 (by decide) lk19 (fun _ h9 => h9) rfl dX0_endsClean_65 ?_
      have hPc := hP.sub (ws' := [(a_br, .inr (0, [.ref a_st, .int rn, .int rf, .int rp])), (a_st, .inr (7, [.ref a_stb, .int sc])), (a_stb, .inl (cB, 8000, .inl sb))]) [0, 1, 2] rfl
      have hDc := hD.sub (ws' := [(a_br, .inr (0, [.ref a_st, .int rn, .int rf, .int rp])), (a_st, .inr (7, [.ref a_stb, .int sc])), (a_stb, .inl (cB, 8000, .inl sb))]) [0, 1, 2] (by decide) rfl
      have hFc := va_free (wc := [(a_br, .inr (0, [.ref a_st, .int rn, .int rf, .int rp])), (a_st, .inr (7, [.ref a_stb, .int sc])), (a_stb, .inl (cB, 8000, .inl sb))]) hD hS hA [0, 1, 2] rfl
      refine jm_callv (wr := []) (va_runV (As := [.int 7, .int rn]) (rest := []) ⟨hx, hb, hml, hown, hts⟩ (c_X0_fail l D cI cB tt a_br a_st a_stb H.size rn rf rp sc sb 7 rn h) (cwV 2 hts (jm_gV mw_333 mw_334 mw_335 mw_63 mw_336) rfl rfl rfl (by decide +kernel) ⟨Nat.le_of_ble_eq_true rfl, Nat.le_of_ble_eq_true rfl⟩) ⟨jm_blind, va_recv hK hPc (ci := 0) (q0 := 0) rfl rfl, jm_pre hK hE hS hPc hDc hFc _⟩ rfl rfl hl.1 rfl (lv_room (Nat.le_of_ble_eq_true rfl)) dX0_endsClean_68 ⟨Nat.zero_le _, Nat.zero_le _⟩) hS hP hD [0, 1, 2] [] rfl rfl (by decide) (by decide) hFc (fun u_13 H_13 locs hw hP hD hS => ?_)
      obtain ⟨rf_13, rp_13⟩ := u_13
      have h := pr2_out hw
      have hP : va_P D vwCl [(a_br, .inr (0, [.ref a_st, .int rn, .int rf_13, .int rp_13])), (a_st, .inr (7, [.ref a_stb, .int sc])), (a_stb, .inl (cB, 8000, .inl sb))] H_13 := hP.sub [0, 1, 2] rfl
      have hD : va_D A [(a_br, .inr (0, [.ref a_st, .int rn, .int rf_13, .int rp_13])), (a_st, .inr (7, [.ref a_stb, .int sc])), (a_stb, .inl (cB, 8000, .inl sb))] := hD.sub [0, 1, 2] (by decide) rfl
      refine lv_iload_n hx hb dX0_endsClean_71 rfl (lv_at hl 1 rfl) ?_
      obtain ⟨hz_14, h⟩ := h
      exact hret v1_10 (rf_13, rp_13) _ _ _ _ dX0_endsClean_72 hz_14.1 h hP hD hS
  refine lv_icmp_ge (tgt := 13) hx hb dX0_endsClean_6 (by decide) (fun c_15 => ?_) (fun c_15 => ?_)
  · have h := h.1 c_15
    refine lv_iconst (v := 0) hx hb dX0_endsClean_13 (by decide) ?_
    exact hJ_2 0 H_1 _ _ h hP hD hS (lv_sub hl [0] rfl)
  · have h := h.2 c_15
    refine lv_iconst (v := 1) hx hb dX0_endsClean_9 (by decide) ?_
    refine lv_goto (tgt := 14) hx hb dX0_endsClean_10 (by decide) ?_
    exact hJ_2 1 H_1 _ _ h hP hD hS (lv_sub hl [0] rfl)
abbrev wd_pr_br_st_stb (cI cB : ClassId) (a_pr a_br a_st a_stb : Nat) (rn : Int32) (rf : Int32) (rp : Int32) (sc : Int32) (sb : (Nat → Int32)) : va_W := [(a_pr, .inr (5, [.ref a_br])), (a_br, .inr (0, [.ref a_st, .int rn, .int rf, .int rp])), (a_st, .inr (7, [.ref a_stb, .int sc])), (a_stb, .inl (cB, 8000, .inl sb))]
def wp_X5_fault (rf : Int32) (K : Int32 → Prop) : Prop := K rf
abbrev jw_X5_fault : List Cond := .code yX5_fault cX5_fault 1 (some .int) :: jmAll
abbrev rmX5_fault : Room := { frames := 0, cells := 0, slots := 0, locals := 0 }
set_option maxHeartbeats 4000000 in
set_option maxRecDepth 100000 in
theorem c_X5_fault (l : Launch) (D : va_G) (cI cB : ClassId) (tt : Nat × Nat × Nat) (a_pr a_br a_st a_stb : Nat) (sz : Nat) (rn : Int32) (rf : Int32) (rp : Int32) (sc : Int32) (sb : (Nat → Int32)) {K : Int32 → Prop} (h : wp_X5_fault rf K) : Met l yX5_fault jw_X5_fault rmX5_fault (va_Pc [.ref a_pr] (jm_Pre D cI cB tt (wd_pr_br_st_stb cI cB a_pr a_br a_st a_stb rn rf rp sc sb) sz)) (va_Qi (fun (r : Int32) (u : Unit) => K r) (jm_Post D cI cB (wd_pr_br_st_stb cI cB a_pr a_br a_st a_stb rn rf rp sc sb) sz (fun (u : Unit) => wd_pr_br_st_stb cI cB a_pr a_br a_st a_stb rn rf rp sc sb)) (va_A (wd_pr_br_st_stb cI cB a_pr a_br a_st a_stb rn rf rp sc sb) sz)) 0 0 (va_A (wd_pr_br_st_stb cI cB a_pr a_br a_st a_stb rn rf rp sc sb) sz) := by
  refine jm_metI (by decide +kernel) rfl rfl (Nat.le_of_ble_eq_true rfl) ?_
  intro p e s m args below meth c A Q ls C0 hP hD hl hret
  obtain ⟨hx, hb, hml, hr, hown, hts, hlocks, hA, hK, hE⟩ := C0
  have hS : va_S A s.heap s.heap [] := va_S.rf
  have hl : lv_has ls 1 [(0, .ref a_pr)] := hl
  unfold wp_X5_fault at h
  have hP : va_P D vwCl [(a_pr, .inr (5, [.ref a_br])), (a_br, .inr (0, [.ref a_st, .int rn, .int rf, .int rp])), (a_st, .inr (7, [.ref a_stb, .int sc])), (a_stb, .inl (cB, 8000, .inl sb))] s.heap := hP
  have hD : va_D A [(a_pr, .inr (5, [.ref a_br])), (a_br, .inr (0, [.ref a_st, .int rn, .int rf, .int rp])), (a_st, .inr (7, [.ref a_stb, .int sc])), (a_stb, .inl (cB, 8000, .inl sb))] := hD
  have iX0 : ∀ w ∈ wsX00, w ∈ jw_X5_fault := fun w h => List.mem_cons_of_mem _ (jm_iX0 w h)
  have iX5 : ∀ w ∈ wsX50, w ∈ jw_X5_fault := fun w h => List.mem_cons_of_mem _ (jm_iX5 w h)
  have lk14 := hts (.fieldLink RX5 14 "IntraMill$PlanReader" "bits" "LIntraMill$BitReader;") (List.mem_cons_of_mem _ mw_213)
  refine lv_aload_n hx hb dX5_fault_0 rfl (lv_at hl 0 rfl) ?_
  refine va_get (D := D) (ci := 5) (v := .ref a_br) (C := RX5) (T := TX5) (N := 1) hx hb hts iX5 hown hK hP 0 rfl rfl 0 (by decide) lk14 (fun _ h9 => h9) rfl dX5_fault_1 ?_
  refine va_getN (D := D) (ci := 0) (v := .int rf) (C := RX0) (T := TX0) (N := 4) hx hb hts iX0 hown hK hP 1 rfl rfl 2 (by decide) (va_Nw.use rfl (hE.1 ("IntraMill$PlanReader", 20, "IntraMill$BitReader", "fault", "I") (List.mem_of_getElem? (i := 15) rfl))) (fun _ h9 => h9) rfl dX5_fault_4 ?_
  exact hret rf () _ _ _ _ dX5_fault_7 (vp_nar_int _) h hP hD hS
def wp_X5_faultPlace (rp : Int32) (K : Int32 → Prop) : Prop := K rp
abbrev jw_X5_faultPlace : List Cond := .code yX5_faultPlace cX5_faultPlace 1 (some .int) :: jmAll
abbrev rmX5_faultPlace : Room := { frames := 0, cells := 0, slots := 0, locals := 0 }
set_option maxHeartbeats 4000000 in
set_option maxRecDepth 100000 in
theorem c_X5_faultPlace (l : Launch) (D : va_G) (cI cB : ClassId) (tt : Nat × Nat × Nat) (a_pr a_br a_st a_stb : Nat) (sz : Nat) (rn : Int32) (rf : Int32) (rp : Int32) (sc : Int32) (sb : (Nat → Int32)) {K : Int32 → Prop} (h : wp_X5_faultPlace rp K) : Met l yX5_faultPlace jw_X5_faultPlace rmX5_faultPlace (va_Pc [.ref a_pr] (jm_Pre D cI cB tt (wd_pr_br_st_stb cI cB a_pr a_br a_st a_stb rn rf rp sc sb) sz)) (va_Qi (fun (r : Int32) (u : Unit) => K r) (jm_Post D cI cB (wd_pr_br_st_stb cI cB a_pr a_br a_st a_stb rn rf rp sc sb) sz (fun (u : Unit) => wd_pr_br_st_stb cI cB a_pr a_br a_st a_stb rn rf rp sc sb)) (va_A (wd_pr_br_st_stb cI cB a_pr a_br a_st a_stb rn rf rp sc sb) sz)) 0 0 (va_A (wd_pr_br_st_stb cI cB a_pr a_br a_st a_stb rn rf rp sc sb) sz) := by
  refine jm_metI (by decide +kernel) rfl rfl (Nat.le_of_ble_eq_true rfl) ?_
  intro p e s m args below meth c A Q ls C0 hP hD hl hret
  obtain ⟨hx, hb, hml, hr, hown, hts, hlocks, hA, hK, hE⟩ := C0
  have hS : va_S A s.heap s.heap [] := va_S.rf
  have hl : lv_has ls 1 [(0, .ref a_pr)] := hl
  unfold wp_X5_faultPlace at h
  have hP : va_P D vwCl [(a_pr, .inr (5, [.ref a_br])), (a_br, .inr (0, [.ref a_st, .int rn, .int rf, .int rp])), (a_st, .inr (7, [.ref a_stb, .int sc])), (a_stb, .inl (cB, 8000, .inl sb))] s.heap := hP
  have hD : va_D A [(a_pr, .inr (5, [.ref a_br])), (a_br, .inr (0, [.ref a_st, .int rn, .int rf, .int rp])), (a_st, .inr (7, [.ref a_stb, .int sc])), (a_stb, .inl (cB, 8000, .inl sb))] := hD
  have iX0 : ∀ w ∈ wsX00, w ∈ jw_X5_faultPlace := fun w h => List.mem_cons_of_mem _ (jm_iX0 w h)
  have iX5 : ∀ w ∈ wsX50, w ∈ jw_X5_faultPlace := fun w h => List.mem_cons_of_mem _ (jm_iX5 w h)
  have lk14 := hts (.fieldLink RX5 14 "IntraMill$PlanReader" "bits" "LIntraMill$BitReader;") (List.mem_cons_of_mem _ mw_213)
  refine lv_aload_n hx hb dX5_faultPlace_0 rfl (lv_at hl 0 rfl) ?_
  refine va_get (D := D) (ci := 5) (v := .ref a_br) (C := RX5) (T := TX5) (N := 1) hx hb hts iX5 hown hK hP 0 rfl rfl 0 (by decide) lk14 (fun _ h9 => h9) rfl dX5_faultPlace_1 ?_
  refine va_getN (D := D) (ci := 0) (v := .int rp) (C := RX0) (T := TX0) (N := 4) hx hb hts iX0 hown hK hP 1 rfl rfl 3 (by decide) (va_Nw.use rfl (hE.1 ("IntraMill$PlanReader", 24, "IntraMill$BitReader", "faultPlace", "I") (List.mem_of_getElem? (i := 16) rfl))) (fun _ h9 => h9) rfl dX5_faultPlace_4 ?_
  exact hret rp () _ _ _ _ dX5_faultPlace_7 (vp_nar_int _) h hP hD hS
abbrev wd_pr_br_st_stb_pl_plm_pll (cI cB : ClassId) (a_pr a_br a_st a_stb a_pl a_plm a_pll : Nat) (rn : Int32) (rf : Int32) (rp : Int32) (sc : Int32) (sb : (Nat → Int32)) (la : Int32) (ld : Int32) (lq : Int32) (lz : Int32) (lm : (Nat → Int32)) (lv : (Nat → Int32)) : va_W := [(a_pr, .inr (5, [.ref a_br])), (a_br, .inr (0, [.ref a_st, .int rn, .int rf, .int rp])), (a_st, .inr (7, [.ref a_stb, .int sc])), (a_stb, .inl (cB, 8000, .inl sb)), (a_pl, .inr (4, [.ref a_plm, .ref a_pll, .int la, .int ld, .int lq, .int lz])), (a_plm, .inl (cI, 64, .inl lm)), (a_pll, .inl (cI, 1024, .inl lv))]
def wp_X5_readHead (rn : Int32) (rf : Int32) (rp : Int32) (sc : Int32) (sb : (Nat → Int32)) (la : Int32) (ld : Int32) (lq : Int32) (lz : Int32) (lm : (Nat → Int32)) (lv : (Nat → Int32)) (K : Int32 → Int32 → Int32 → Int32 → Int32 → Int32 → Int32 → Int32 → (Nat → Int32) → (Nat → Int32) → Prop) : Prop := wp_X0_readNumber rn rf rp sc sb 7 2 (fun (r_1 : Int32) (rn_1 : Int32) (rf_1 : Int32) (rp_1 : Int32) => ((r_1 = (-1) → K 0 rn_1 rf_1 rp_1 la ld lq lz lm lv) ∧ (¬ r_1 = (-1) → wp_X0_readNumber rn_1 rf_1 rp_1 sc sb 7 2 (fun (r_3 : Int32) (rn_3 : Int32) (rf_3 : Int32) (rp_3 : Int32) => ((r_3 = (-1) → K 0 rn_3 rf_3 rp_3 la ld lq lz lm lv) ∧ (¬ r_3 = (-1) → wp_X0_readNumber rn_3 rf_3 rp_3 sc sb 51 2 (fun (r_5 : Int32) (rn_5 : Int32) (rf_5 : Int32) (rp_5 : Int32) => ((r_5 = (-1) → K 0 rn_5 rf_5 rp_5 la ld lq lz lm lv) ∧ (¬ r_5 = (-1) → wp_X0_readBits rn_5 rf_5 rp_5 sc sb 1 (fun (r_7 : Int32) (rn_7 : Int32) (rf_7 : Int32) (rp_7 : Int32) => ((r_7 = (-1) → K 0 rn_7 rf_7 rp_7 la ld lq lz lm lv) ∧ (¬ r_7 = (-1) → wp_X4_clear la ld lq lz lm lv (r_1 + 1) (r_3 + 1) (fun (la_9 : Int32) (ld_9 : Int32) (lq_9 : Int32) (lz_9 : Int32) (lm_9 : (Nat → Int32)) (lv_9 : (Nat → Int32)) => jn1 (fun (t0_11 : Int32) => jz t0_11 ∧ K 1 rn_7 rf_7 rp_7 la_9 ld_9 r_5 t0_11 lm_9 lv_9) (fun J_11 => ((r_7 = 1 → J_11 1) ∧ (¬ r_7 = 1 → J_11 0))))))))))))))))
abbrev jw_X5_readHead : List Cond := .code yX5_readHead cX5_readHead 6 (some .boolean) :: jmAll
abbrev rmX5_readHead : Room := { frames := 3, cells := 0, slots := 0, locals := 70 }
set_option maxHeartbeats 4000000 in
set_option maxRecDepth 100000 in
theorem c_X5_readHead (l : Launch) (D : va_G) (cI cB : ClassId) (tt : Nat × Nat × Nat) (a_pr a_br a_st a_stb a_pl a_plm a_pll : Nat) (sz : Nat) (rn : Int32) (rf : Int32) (rp : Int32) (sc : Int32) (sb : (Nat → Int32)) (la : Int32) (ld : Int32) (lq : Int32) (lz : Int32) (lm : (Nat → Int32)) (lv : (Nat → Int32)) {K : Int32 → Int32 → Int32 → Int32 → Int32 → Int32 → Int32 → Int32 → (Nat → Int32) → (Nat → Int32) → Prop} (h : wp_X5_readHead rn rf rp sc sb la ld lq lz lm lv K) : Met l yX5_readHead jw_X5_readHead rmX5_readHead (va_Pc [.ref a_pr, .ref a_pl] (jm_Pre D cI cB tt (wd_pr_br_st_stb_pl_plm_pll cI cB a_pr a_br a_st a_stb a_pl a_plm a_pll rn rf rp sc sb la ld lq lz lm lv) sz)) (va_Qi (fun (r : Int32) (u : Int32 × Int32 × Int32 × Int32 × Int32 × Int32 × Int32 × (Nat → Int32) × (Nat → Int32)) => pr9 (K r) u) (jm_Post D cI cB (wd_pr_br_st_stb_pl_plm_pll cI cB a_pr a_br a_st a_stb a_pl a_plm a_pll rn rf rp sc sb la ld lq lz lm lv) sz (fun (u : Int32 × Int32 × Int32 × Int32 × Int32 × Int32 × Int32 × (Nat → Int32) × (Nat → Int32)) => wd_pr_br_st_stb_pl_plm_pll cI cB a_pr a_br a_st a_stb a_pl a_plm a_pll u.1 u.2.1 u.2.2.1 sc sb u.2.2.2.1 u.2.2.2.2.1 u.2.2.2.2.2.1 u.2.2.2.2.2.2.1 u.2.2.2.2.2.2.2.1 u.2.2.2.2.2.2.2.2)) (va_A (wd_pr_br_st_stb_pl_plm_pll cI cB a_pr a_br a_st a_stb a_pl a_plm a_pll rn rf rp sc sb la ld lq lz lm lv) sz)) 0 0 (va_A (wd_pr_br_st_stb_pl_plm_pll cI cB a_pr a_br a_st a_stb a_pl a_plm a_pll rn rf rp sc sb la ld lq lz lm lv) sz) := by
  refine jm_metI (by decide +kernel) rfl rfl (Nat.le_of_ble_eq_true rfl) ?_
  intro p e s m args below meth c A Q ls C0 hP hD hl hret
  obtain ⟨hx, hb, hml, hr, hown, hts, hlocks, hA, hK, hE⟩ := C0
  have hS : va_S A s.heap s.heap [] := va_S.rf
  have hl : lv_has ls 6 [(0, .ref a_pr), (1, .ref a_pl)] := hl
  unfold wp_X5_readHead at h
  have hP : va_P D vwCl [(a_pr, .inr (5, [.ref a_br])), (a_br, .inr (0, [.ref a_st, .int rn, .int rf, .int rp])), (a_st, .inr (7, [.ref a_stb, .int sc])), (a_stb, .inl (cB, 8000, .inl sb)), (a_pl, .inr (4, [.ref a_plm, .ref a_pll, .int la, .int ld, .int lq, .int lz])), (a_plm, .inl (cI, 64, .inl lm)), (a_pll, .inl (cI, 1024, .inl lv))] s.heap := hP
  have hD : va_D A [(a_pr, .inr (5, [.ref a_br])), (a_br, .inr (0, [.ref a_st, .int rn, .int rf, .int rp])), (a_st, .inr (7, [.ref a_stb, .int sc])), (a_stb, .inl (cB, 8000, .inl sb)), (a_pl, .inr (4, [.ref a_plm, .ref a_pll, .int la, .int ld, .int lq, .int lz])), (a_plm, .inl (cI, 64, .inl lm)), (a_pll, .inl (cI, 1024, .inl lv))] := hD
  have iX4 : ∀ w ∈ wsX40, w ∈ jw_X5_readHead := fun w h => List.mem_cons_of_mem _ (jm_iX4 w h)
  have iX5 : ∀ w ∈ wsX50, w ∈ jw_X5_readHead := fun w h => List.mem_cons_of_mem _ (jm_iX5 w h)
  have lk14 := hts (.fieldLink RX5 14 "IntraMill$PlanReader" "bits" "LIntraMill$BitReader;") (List.mem_cons_of_mem _ mw_213)
  refine lv_aload_n hx hb dX5_readHead_0 rfl (lv_at hl 0 rfl) ?_
  refine va_get (D := D) (ci := 5) (v := .ref a_br) (C := RX5) (T := TX5) (N := 1) hx hb hts iX5 hown hK hP 0 rfl rfl 0 (by decide) lk14 (fun _ h9 => h9) rfl dX5_readHead_1 ?_
  refine lv_bipush (v := 7) hx hb dX5_readHead_4 (by decide) ?_
  refine lv_iconst (v := 2) hx hb dX5_readHead_6 (by decide) ?_
  have hPc := hP.sub (ws' := [(a_br, .inr (0, [.ref a_st, .int rn, .int rf, .int rp])), (a_st, .inr (7, [.ref a_stb, .int sc])), (a_stb, .inl (cB, 8000, .inl sb))]) [1, 2, 3] rfl
  have hDc := hD.sub (ws' := [(a_br, .inr (0, [.ref a_st, .int rn, .int rf, .int rp])), (a_st, .inr (7, [.ref a_stb, .int sc])), (a_stb, .inl (cB, 8000, .inl sb))]) [1, 2, 3] (by decide) rfl
  have hFc := va_free (wc := [(a_br, .inr (0, [.ref a_st, .int rn, .int rf, .int rp])), (a_st, .inr (7, [.ref a_stb, .int sc])), (a_stb, .inl (cB, 8000, .inl sb))]) hD hS hA [1, 2, 3] rfl
  refine jm_calli (wr := [(a_pr, .inr (5, [.ref a_br])), (a_pl, .inr (4, [.ref a_plm, .ref a_pll, .int la, .int ld, .int lq, .int lz])), (a_plm, .inl (cI, 64, .inl lm)), (a_pll, .inl (cI, 1024, .inl lv))]) (va_runV (As := [.int 7, .int 2]) (rest := []) ⟨hx, hb, hml, hown, hts⟩ (c_X0_readNumber l D cI cB tt a_br a_st a_stb s.heap.size rn rf rp sc sb 7 2 h) (cwV 2 hts (jm_gV mw_317 mw_318 mw_319 mw_63 mw_320) rfl rfl rfl (by decide +kernel) ⟨Nat.le_of_ble_eq_true rfl, Nat.le_of_ble_eq_true rfl⟩) ⟨jm_blind, va_recv hK hPc (ci := 0) (q0 := 0) rfl rfl, jm_pre hK hE hS hPc hDc hFc _⟩ rfl rfl hl.1 rfl (lv_room (Nat.le_of_ble_eq_true rfl)) dX5_readHead_7 ⟨Nat.zero_le _, Nat.zero_le _⟩) hS hP hD [1, 2, 3] [0, 4, 5, 6] rfl rfl (by decide) (by decide) hFc (fun r_1 u_1 H_1 locs hw hP hD hS => ?_)
  obtain ⟨rn_1, rf_1, rp_1⟩ := u_1
  have h := pr3_out hw
  have hP : va_P D vwCl [(a_pr, .inr (5, [.ref a_br])), (a_br, .inr (0, [.ref a_st, .int rn_1, .int rf_1, .int rp_1])), (a_st, .inr (7, [.ref a_stb, .int sc])), (a_stb, .inl (cB, 8000, .inl sb)), (a_pl, .inr (4, [.ref a_plm, .ref a_pll, .int la, .int ld, .int lq, .int lz])), (a_plm, .inl (cI, 64, .inl lm)), (a_pll, .inl (cI, 1024, .inl lv))] H_1 := hP.sub [0, 4, 5, 6, 1, 2, 3] rfl
  have hD : va_D A [(a_pr, .inr (5, [.ref a_br])), (a_br, .inr (0, [.ref a_st, .int rn_1, .int rf_1, .int rp_1])), (a_st, .inr (7, [.ref a_stb, .int sc])), (a_stb, .inl (cB, 8000, .inl sb)), (a_pl, .inr (4, [.ref a_plm, .ref a_pll, .int la, .int ld, .int lq, .int lz])), (a_plm, .inl (cI, 64, .inl lm)), (a_pll, .inl (cI, 1024, .inl lv))] := hD.sub [0, 4, 5, 6, 1, 2, 3] (by decide) rfl
  refine lv_istore_n (lv' := [(2, .int r_1), (0, .ref a_pr), (1, .ref a_pl)]) hx hb dX5_readHead_10 rfl hl (by decide) rfl (fun ls hl => ?_)
  refine lv_iload_n hx hb dX5_readHead_11 rfl (lv_at hl 0 rfl) ?_
  refine lv_iconst (v := (-1)) hx hb dX5_readHead_12 (by decide) ?_
  refine lv_icmp_ne (tgt := 18) hx hb dX5_readHead_13 (by decide) (fun c_2 => ?_) (fun c_2 => ?_)
  · have h := h.2 c_2
    refine lv_aload_n hx hb dX5_readHead_18 rfl (lv_at hl 1 rfl) ?_
    refine va_get (D := D) (ci := 5) (v := .ref a_br) (C := RX5) (T := TX5) (N := 1) hx hb hts iX5 hown hK hP 0 rfl rfl 0 (by decide) lk14 (fun _ h9 => h9) rfl dX5_readHead_19 ?_
    refine lv_bipush (v := 7) hx hb dX5_readHead_22 (by decide) ?_
    refine lv_iconst (v := 2) hx hb dX5_readHead_24 (by decide) ?_
    have hPc := hP.sub (ws' := [(a_br, .inr (0, [.ref a_st, .int rn_1, .int rf_1, .int rp_1])), (a_st, .inr (7, [.ref a_stb, .int sc])), (a_stb, .inl (cB, 8000, .inl sb))]) [1, 2, 3] rfl
    have hDc := hD.sub (ws' := [(a_br, .inr (0, [.ref a_st, .int rn_1, .int rf_1, .int rp_1])), (a_st, .inr (7, [.ref a_stb, .int sc])), (a_stb, .inl (cB, 8000, .inl sb))]) [1, 2, 3] (by decide) rfl
    have hFc := va_free (wc := [(a_br, .inr (0, [.ref a_st, .int rn_1, .int rf_1, .int rp_1])), (a_st, .inr (7, [.ref a_stb, .int sc])), (a_stb, .inl (cB, 8000, .inl sb))]) hD hS hA [1, 2, 3] rfl
    refine jm_calli (wr := [(a_pr, .inr (5, [.ref a_br])), (a_pl, .inr (4, [.ref a_plm, .ref a_pll, .int la, .int ld, .int lq, .int lz])), (a_plm, .inl (cI, 64, .inl lm)), (a_pll, .inl (cI, 1024, .inl lv))]) (va_runV (As := [.int 7, .int 2]) (rest := []) ⟨hx, hb, hml, hown, hts⟩ (c_X0_readNumber l D cI cB tt a_br a_st a_stb H_1.size rn_1 rf_1 rp_1 sc sb 7 2 h) (cwV 2 hts (jm_gV mw_317 mw_318 mw_319 mw_63 mw_320) rfl rfl rfl (by decide +kernel) ⟨Nat.le_of_ble_eq_true rfl, Nat.le_of_ble_eq_true rfl⟩) ⟨jm_blind, va_recv hK hPc (ci := 0) (q0 := 0) rfl rfl, jm_pre hK hE hS hPc hDc hFc _⟩ rfl rfl hl.1 rfl (lv_room (Nat.le_of_ble_eq_true rfl)) dX5_readHead_25 ⟨Nat.zero_le _, Nat.zero_le _⟩) hS hP hD [1, 2, 3] [0, 4, 5, 6] rfl rfl (by decide) (by decide) hFc (fun r_3 u_3 H_3 locs hw hP hD hS => ?_)
    obtain ⟨rn_3, rf_3, rp_3⟩ := u_3
    have h := pr3_out hw
    have hP : va_P D vwCl [(a_pr, .inr (5, [.ref a_br])), (a_br, .inr (0, [.ref a_st, .int rn_3, .int rf_3, .int rp_3])), (a_st, .inr (7, [.ref a_stb, .int sc])), (a_stb, .inl (cB, 8000, .inl sb)), (a_pl, .inr (4, [.ref a_plm, .ref a_pll, .int la, .int ld, .int lq, .int lz])), (a_plm, .inl (cI, 64, .inl lm)), (a_pll, .inl (cI, 1024, .inl lv))] H_3 := hP.sub [0, 4, 5, 6, 1, 2, 3] rfl
    have hD : va_D A [(a_pr, .inr (5, [.ref a_br])), (a_br, .inr (0, [.ref a_st, .int rn_3, .int rf_3, .int rp_3])), (a_st, .inr (7, [.ref a_stb, .int sc])), (a_stb, .inl (cB, 8000, .inl sb)), (a_pl, .inr (4, [.ref a_plm, .ref a_pll, .int la, .int ld, .int lq, .int lz])), (a_plm, .inl (cI, 64, .inl lm)), (a_pll, .inl (cI, 1024, .inl lv))] := hD.sub [0, 4, 5, 6, 1, 2, 3] (by decide) rfl
    refine lv_istore_n (lv' := [(3, .int r_3), (2, .int r_1), (0, .ref a_pr), (1, .ref a_pl)]) hx hb dX5_readHead_28 rfl hl (by decide) rfl (fun ls hl => ?_)
    refine lv_iload_n hx hb dX5_readHead_29 rfl (lv_at hl 0 rfl) ?_
    refine lv_iconst (v := (-1)) hx hb dX5_readHead_30 (by decide) ?_
    refine lv_icmp_ne (tgt := 36) hx hb dX5_readHead_31 (by decide) (fun c_4 => ?_) (fun c_4 => ?_)
    · have h := h.2 c_4
      refine lv_aload_n hx hb dX5_readHead_36 rfl (lv_at hl 2 rfl) ?_
      refine va_get (D := D) (ci := 5) (v := .ref a_br) (C := RX5) (T := TX5) (N := 1) hx hb hts iX5 hown hK hP 0 rfl rfl 0 (by decide) lk14 (fun _ h9 => h9) rfl dX5_readHead_37 ?_
      refine lv_bipush (v := 51) hx hb dX5_readHead_40 (by decide) ?_
      refine lv_iconst (v := 2) hx hb dX5_readHead_42 (by decide) ?_
      have hPc := hP.sub (ws' := [(a_br, .inr (0, [.ref a_st, .int rn_3, .int rf_3, .int rp_3])), (a_st, .inr (7, [.ref a_stb, .int sc])), (a_stb, .inl (cB, 8000, .inl sb))]) [1, 2, 3] rfl
      have hDc := hD.sub (ws' := [(a_br, .inr (0, [.ref a_st, .int rn_3, .int rf_3, .int rp_3])), (a_st, .inr (7, [.ref a_stb, .int sc])), (a_stb, .inl (cB, 8000, .inl sb))]) [1, 2, 3] (by decide) rfl
      have hFc := va_free (wc := [(a_br, .inr (0, [.ref a_st, .int rn_3, .int rf_3, .int rp_3])), (a_st, .inr (7, [.ref a_stb, .int sc])), (a_stb, .inl (cB, 8000, .inl sb))]) hD hS hA [1, 2, 3] rfl
      refine jm_calli (wr := [(a_pr, .inr (5, [.ref a_br])), (a_pl, .inr (4, [.ref a_plm, .ref a_pll, .int la, .int ld, .int lq, .int lz])), (a_plm, .inl (cI, 64, .inl lm)), (a_pll, .inl (cI, 1024, .inl lv))]) (va_runV (As := [.int 51, .int 2]) (rest := []) ⟨hx, hb, hml, hown, hts⟩ (c_X0_readNumber l D cI cB tt a_br a_st a_stb H_3.size rn_3 rf_3 rp_3 sc sb 51 2 h) (cwV 2 hts (jm_gV mw_317 mw_318 mw_319 mw_63 mw_320) rfl rfl rfl (by decide +kernel) ⟨Nat.le_of_ble_eq_true rfl, Nat.le_of_ble_eq_true rfl⟩) ⟨jm_blind, va_recv hK hPc (ci := 0) (q0 := 0) rfl rfl, jm_pre hK hE hS hPc hDc hFc _⟩ rfl rfl hl.1 rfl (lv_room (Nat.le_of_ble_eq_true rfl)) dX5_readHead_43 ⟨Nat.zero_le _, Nat.zero_le _⟩) hS hP hD [1, 2, 3] [0, 4, 5, 6] rfl rfl (by decide) (by decide) hFc (fun r_5 u_5 H_5 locs hw hP hD hS => ?_)
      obtain ⟨rn_5, rf_5, rp_5⟩ := u_5
      have h := pr3_out hw
      have hP : va_P D vwCl [(a_pr, .inr (5, [.ref a_br])), (a_br, .inr (0, [.ref a_st, .int rn_5, .int rf_5, .int rp_5])), (a_st, .inr (7, [.ref a_stb, .int sc])), (a_stb, .inl (cB, 8000, .inl sb)), (a_pl, .inr (4, [.ref a_plm, .ref a_pll, .int la, .int ld, .int lq, .int lz])), (a_plm, .inl (cI, 64, .inl lm)), (a_pll, .inl (cI, 1024, .inl lv))] H_5 := hP.sub [0, 4, 5, 6, 1, 2, 3] rfl
      have hD : va_D A [(a_pr, .inr (5, [.ref a_br])), (a_br, .inr (0, [.ref a_st, .int rn_5, .int rf_5, .int rp_5])), (a_st, .inr (7, [.ref a_stb, .int sc])), (a_stb, .inl (cB, 8000, .inl sb)), (a_pl, .inr (4, [.ref a_plm, .ref a_pll, .int la, .int ld, .int lq, .int lz])), (a_plm, .inl (cI, 64, .inl lm)), (a_pll, .inl (cI, 1024, .inl lv))] := hD.sub [0, 4, 5, 6, 1, 2, 3] (by decide) rfl
      refine lv_istore (lv' := [(4, .int r_5), (3, .int r_3), (2, .int r_1), (0, .ref a_pr), (1, .ref a_pl)]) hx hb dX5_readHead_46 hl (by decide) rfl (fun ls hl => ?_)
      refine lv_iload hx hb dX5_readHead_48 (lv_at hl 0 rfl) ?_
      refine lv_iconst (v := (-1)) hx hb dX5_readHead_50 (by decide) ?_
      refine lv_icmp_ne (tgt := 56) hx hb dX5_readHead_51 (by decide) (fun c_6 => ?_) (fun c_6 => ?_)
      · have h := h.2 c_6
        refine lv_aload_n hx hb dX5_readHead_56 rfl (lv_at hl 3 rfl) ?_
        refine va_get (D := D) (ci := 5) (v := .ref a_br) (C := RX5) (T := TX5) (N := 1) hx hb hts iX5 hown hK hP 0 rfl rfl 0 (by decide) lk14 (fun _ h9 => h9) rfl dX5_readHead_57 ?_
        refine lv_iconst (v := 1) hx hb dX5_readHead_60 (by decide) ?_
        have hPc := hP.sub (ws' := [(a_br, .inr (0, [.ref a_st, .int rn_5, .int rf_5, .int rp_5])), (a_st, .inr (7, [.ref a_stb, .int sc])), (a_stb, .inl (cB, 8000, .inl sb))]) [1, 2, 3] rfl
        have hDc := hD.sub (ws' := [(a_br, .inr (0, [.ref a_st, .int rn_5, .int rf_5, .int rp_5])), (a_st, .inr (7, [.ref a_stb, .int sc])), (a_stb, .inl (cB, 8000, .inl sb))]) [1, 2, 3] (by decide) rfl
        have hFc := va_free (wc := [(a_br, .inr (0, [.ref a_st, .int rn_5, .int rf_5, .int rp_5])), (a_st, .inr (7, [.ref a_stb, .int sc])), (a_stb, .inl (cB, 8000, .inl sb))]) hD hS hA [1, 2, 3] rfl
        refine jm_calli (wr := [(a_pr, .inr (5, [.ref a_br])), (a_pl, .inr (4, [.ref a_plm, .ref a_pll, .int la, .int ld, .int lq, .int lz])), (a_plm, .inl (cI, 64, .inl lm)), (a_pll, .inl (cI, 1024, .inl lv))]) (va_runV (As := [.int 1]) (rest := []) ⟨hx, hb, hml, hown, hts⟩ (c_X0_readBits l D cI cB tt a_br a_st a_stb H_5.size rn_5 rf_5 rp_5 sc sb 1 h) (cwV 1 hts (jm_gV mw_341 mw_338 mw_339 mw_63 mw_340) rfl rfl rfl (by decide +kernel) ⟨Nat.le_of_ble_eq_true rfl, Nat.le_of_ble_eq_true rfl⟩) ⟨jm_blind, va_recv hK hPc (ci := 0) (q0 := 0) rfl rfl, jm_pre hK hE hS hPc hDc hFc _⟩ rfl rfl hl.1 rfl (lv_room (Nat.le_of_ble_eq_true rfl)) dX5_readHead_61 ⟨Nat.zero_le _, Nat.zero_le _⟩) hS hP hD [1, 2, 3] [0, 4, 5, 6] rfl rfl (by decide) (by decide) hFc (fun r_7 u_7 H_7 locs hw hP hD hS => ?_)
        obtain ⟨rn_7, rf_7, rp_7⟩ := u_7
        have h := pr3_out hw
        have hP : va_P D vwCl [(a_pr, .inr (5, [.ref a_br])), (a_br, .inr (0, [.ref a_st, .int rn_7, .int rf_7, .int rp_7])), (a_st, .inr (7, [.ref a_stb, .int sc])), (a_stb, .inl (cB, 8000, .inl sb)), (a_pl, .inr (4, [.ref a_plm, .ref a_pll, .int la, .int ld, .int lq, .int lz])), (a_plm, .inl (cI, 64, .inl lm)), (a_pll, .inl (cI, 1024, .inl lv))] H_7 := hP.sub [0, 4, 5, 6, 1, 2, 3] rfl
        have hD : va_D A [(a_pr, .inr (5, [.ref a_br])), (a_br, .inr (0, [.ref a_st, .int rn_7, .int rf_7, .int rp_7])), (a_st, .inr (7, [.ref a_stb, .int sc])), (a_stb, .inl (cB, 8000, .inl sb)), (a_pl, .inr (4, [.ref a_plm, .ref a_pll, .int la, .int ld, .int lq, .int lz])), (a_plm, .inl (cI, 64, .inl lm)), (a_pll, .inl (cI, 1024, .inl lv))] := hD.sub [0, 4, 5, 6, 1, 2, 3] (by decide) rfl
        refine lv_istore (lv' := [(5, .int r_7), (4, .int r_5), (3, .int r_3), (2, .int r_1), (0, .ref a_pr), (1, .ref a_pl)]) hx hb dX5_readHead_64 hl (by decide) rfl (fun ls hl => ?_)
        refine lv_iload hx hb dX5_readHead_66 (lv_at hl 0 rfl) ?_
        refine lv_iconst (v := (-1)) hx hb dX5_readHead_68 (by decide) ?_
        refine lv_icmp_ne (tgt := 74) hx hb dX5_readHead_69 (by decide) (fun c_8 => ?_) (fun c_8 => ?_)
        · have h := h.2 c_8
          refine lv_aload_n hx hb dX5_readHead_74 rfl (lv_at hl 5 rfl) ?_
          refine lv_iload_n hx hb dX5_readHead_75 rfl (lv_at hl 3 rfl) ?_
          refine lv_iconst (v := 1) hx hb dX5_readHead_76 (by decide) ?_
          refine lv_iadd hx hb dX5_readHead_77 ?_
          refine lv_iload_n hx hb dX5_readHead_78 rfl (lv_at hl 2 rfl) ?_
          refine lv_iconst (v := 1) hx hb dX5_readHead_79 (by decide) ?_
          refine lv_iadd hx hb dX5_readHead_80 ?_
          have hPc := hP.sub (ws' := [(a_pl, .inr (4, [.ref a_plm, .ref a_pll, .int la, .int ld, .int lq, .int lz])), (a_plm, .inl (cI, 64, .inl lm)), (a_pll, .inl (cI, 1024, .inl lv))]) [4, 5, 6] rfl
          have hDc := hD.sub (ws' := [(a_pl, .inr (4, [.ref a_plm, .ref a_pll, .int la, .int ld, .int lq, .int lz])), (a_plm, .inl (cI, 64, .inl lm)), (a_pll, .inl (cI, 1024, .inl lv))]) [4, 5, 6] (by decide) rfl
          have hFc := va_free (wc := [(a_pl, .inr (4, [.ref a_plm, .ref a_pll, .int la, .int ld, .int lq, .int lz])), (a_plm, .inl (cI, 64, .inl lm)), (a_pll, .inl (cI, 1024, .inl lv))]) hD hS hA [4, 5, 6] rfl
          refine jm_callv (wr := [(a_pr, .inr (5, [.ref a_br])), (a_br, .inr (0, [.ref a_st, .int rn_7, .int rf_7, .int rp_7])), (a_st, .inr (7, [.ref a_stb, .int sc])), (a_stb, .inl (cB, 8000, .inl sb))]) (va_runV (As := [.int (r_1 + 1), .int (r_3 + 1)]) (rest := []) ⟨hx, hb, hml, hown, hts⟩ (c_X4_clear l D cI cB tt a_pl a_plm a_pll H_7.size la ld lq lz lm lv (r_1 + 1) (r_3 + 1) h) (cwV 2 hts (jm_gV mw_342 mw_262 mw_263 mw_64 mw_264) rfl rfl rfl (by decide +kernel) ⟨Nat.le_of_ble_eq_true rfl, Nat.le_of_ble_eq_true rfl⟩) ⟨jm_blind, va_recv hK hPc (ci := 4) (q0 := 0) rfl rfl, jm_pre hK hE hS hPc hDc hFc _⟩ rfl rfl hl.1 rfl (lv_room (Nat.le_of_ble_eq_true rfl)) dX5_readHead_81 ⟨Nat.zero_le _, Nat.zero_le _⟩) hS hP hD [4, 5, 6] [0, 1, 2, 3] rfl rfl (by decide) (by decide) hFc (fun u_9 H_9 locs hw hP hD hS => ?_)
          obtain ⟨la_9, ld_9, lq_9, lz_9, lm_9, lv_9⟩ := u_9
          have h := pr6_out hw
          have hP : va_P D vwCl [(a_pr, .inr (5, [.ref a_br])), (a_br, .inr (0, [.ref a_st, .int rn_7, .int rf_7, .int rp_7])), (a_st, .inr (7, [.ref a_stb, .int sc])), (a_stb, .inl (cB, 8000, .inl sb)), (a_pl, .inr (4, [.ref a_plm, .ref a_pll, .int la_9, .int ld_9, .int lq_9, .int lz_9])), (a_plm, .inl (cI, 64, .inl lm_9)), (a_pll, .inl (cI, 1024, .inl lv_9))] H_9 := hP.sub [0, 1, 2, 3, 4, 5, 6] rfl
          have hD : va_D A [(a_pr, .inr (5, [.ref a_br])), (a_br, .inr (0, [.ref a_st, .int rn_7, .int rf_7, .int rp_7])), (a_st, .inr (7, [.ref a_stb, .int sc])), (a_stb, .inl (cB, 8000, .inl sb)), (a_pl, .inr (4, [.ref a_plm, .ref a_pll, .int la_9, .int ld_9, .int lq_9, .int lz_9])), (a_plm, .inl (cI, 64, .inl lm_9)), (a_pll, .inl (cI, 1024, .inl lv_9))] := hD.sub [0, 1, 2, 3, 4, 5, 6] (by decide) rfl
          refine lv_aload_n hx hb dX5_readHead_84 rfl (lv_at hl 5 rfl) ?_
          refine lv_iload hx hb dX5_readHead_85 (lv_at hl 1 rfl) ?_
          refine va_putN (D := D) (ci := 4) (v := .int r_5) (ty := .int) (C := RX4) (T := TX4) (N := 6) hx hb hts iX4 tyX4 tyX4_ok nmX4 hown hK hP hD hS 4 rfl rfl 4 (by decide) (va_Nw.use rfl (hE.1 ("IntraMill$PlanReader", 63, "IntraMill$Plan", "qp", "I") (List.mem_of_getElem? (i := 17) rfl))) (fun _ h9 => h9) rfl (by decide +kernel) rfl rfl (Nat.le_of_ble_eq_true rfl) dX5_readHead_87 (fun H_10 locs hP hD hS => ?_)
          have hP : va_P D vwCl [(a_pr, .inr (5, [.ref a_br])), (a_br, .inr (0, [.ref a_st, .int rn_7, .int rf_7, .int rp_7])), (a_st, .inr (7, [.ref a_stb, .int sc])), (a_stb, .inl (cB, 8000, .inl sb)), (a_pl, .inr (4, [.ref a_plm, .ref a_pll, .int la_9, .int ld_9, .int r_5, .int lz_9])), (a_plm, .inl (cI, 64, .inl lm_9)), (a_pll, .inl (cI, 1024, .inl lv_9))] H_10 := hP
          have hD : va_D A [(a_pr, .inr (5, [.ref a_br])), (a_br, .inr (0, [.ref a_st, .int rn_7, .int rf_7, .int rp_7])), (a_st, .inr (7, [.ref a_stb, .int sc])), (a_stb, .inl (cB, 8000, .inl sb)), (a_pl, .inr (4, [.ref a_plm, .ref a_pll, .int la_9, .int ld_9, .int r_5, .int lz_9])), (a_plm, .inl (cI, 64, .inl lm_9)), (a_pll, .inl (cI, 1024, .inl lv_9))] := hD
          refine lv_aload_n hx hb dX5_readHead_90 rfl (lv_at hl 5 rfl) ?_
          refine lv_iload hx hb dX5_readHead_91 (lv_at hl 0 rfl) ?_
          refine lv_iconst (v := 1) hx hb dX5_readHead_93 (by decide) ?_
          obtain ⟨J_11, hj_11, h⟩ := jn1_out h
          have hJ_11 : ∀ (t0_11 : Int32), ∀ (H : Heap) (locs : List Loc) (ls : Array Slot), J_11 t0_11 → va_P D vwCl [(a_pr, .inr (5, [.ref a_br])), (a_br, .inr (0, [.ref a_st, .int rn_7, .int rf_7, .int rp_7])), (a_st, .inr (7, [.ref a_stb, .int sc])), (a_stb, .inl (cB, 8000, .inl sb)), (a_pl, .inr (4, [.ref a_plm, .ref a_pll, .int la_9, .int ld_9, .int r_5, .int lz_9])), (a_plm, .inl (cI, 64, .inl lm_9)), (a_pll, .inl (cI, 1024, .inl lv_9))] H → va_D A [(a_pr, .inr (5, [.ref a_br])), (a_br, .inr (0, [.ref a_st, .int rn_7, .int rf_7, .int rp_7])), (a_st, .inr (7, [.ref a_stb, .int sc])), (a_stb, .inl (cB, 8000, .inl sb)), (a_pl, .inr (4, [.ref a_plm, .ref a_pll, .int la_9, .int ld_9, .int r_5, .int lz_9])), (a_plm, .inl (cI, 64, .inl lm_9)), (a_pll, .inl (cI, 1024, .inl lv_9))] → va_S A s.heap H locs → lv_has ls 6 [(0, .ref a_pr), (1, .ref a_pl), (2, .int r_1), (3, .int r_3), (4, .int r_5), (5, .int r_7)] → W p l e rmX5_readHead s m args below meth c H locs 0 0 Q (F0 m 102 ls [.int t0_11, .ref a_pl]) := by
            intro t0_11 H locs ls h hP hD hS hl
            have h := hj_11 t0_11 h
            obtain ⟨hz_12, h⟩ := h
            refine va_putN (D := D) (ci := 4) (v := .int t0_11) (ty := .boolean) (C := RX4) (T := TX4) (N := 6) hx hb hts iX4 tyX4 tyX4_ok nmX4 hown hK hP hD hS 4 rfl rfl 5 (by decide) (va_Nw.use rfl (hE.1 ("IntraMill$PlanReader", 66, "IntraMill$Plan", "smooth", "Z") (List.mem_of_getElem? (i := 18) rfl))) (fun _ h9 => h9) rfl (by decide +kernel) hz_12.1 hz_12.2 (Nat.le_of_ble_eq_true rfl) dX5_readHead_102 (fun H_13 locs hP hD hS => ?_)
            have hP : va_P D vwCl [(a_pr, .inr (5, [.ref a_br])), (a_br, .inr (0, [.ref a_st, .int rn_7, .int rf_7, .int rp_7])), (a_st, .inr (7, [.ref a_stb, .int sc])), (a_stb, .inl (cB, 8000, .inl sb)), (a_pl, .inr (4, [.ref a_plm, .ref a_pll, .int la_9, .int ld_9, .int r_5, .int t0_11])), (a_plm, .inl (cI, 64, .inl lm_9)), (a_pll, .inl (cI, 1024, .inl lv_9))] H_13 := hP
            have hD : va_D A [(a_pr, .inr (5, [.ref a_br])), (a_br, .inr (0, [.ref a_st, .int rn_7, .int rf_7, .int rp_7])), (a_st, .inr (7, [.ref a_stb, .int sc])), (a_stb, .inl (cB, 8000, .inl sb)), (a_pl, .inr (4, [.ref a_plm, .ref a_pll, .int la_9, .int ld_9, .int r_5, .int t0_11])), (a_plm, .inl (cI, 64, .inl lm_9)), (a_pll, .inl (cI, 1024, .inl lv_9))] := hD
            refine lv_iconst (v := 1) hx hb dX5_readHead_105 (by decide) ?_
            exact hret 1 (rn_7, rf_7, rp_7, la_9, ld_9, r_5, t0_11, lm_9, lv_9) _ _ _ _ dX5_readHead_106 (by decide) h hP hD hS
          refine lv_icmp_ne (tgt := 101) hx hb dX5_readHead_94 (by decide) (fun c_14 => ?_) (fun c_14 => ?_)
          · have h := h.2 c_14
            refine lv_iconst (v := 0) hx hb dX5_readHead_101 (by decide) ?_
            exact hJ_11 0 H_10 _ _ h hP hD hS (lv_sub hl [4, 5, 3, 2, 1, 0] rfl)
          · have h := h.1 c_14
            refine lv_iconst (v := 1) hx hb dX5_readHead_97 (by decide) ?_
            refine lv_goto (tgt := 102) hx hb dX5_readHead_98 (by decide) ?_
            exact hJ_11 1 H_10 _ _ h hP hD hS (lv_sub hl [4, 5, 3, 2, 1, 0] rfl)
        · have h := h.1 c_8
          refine lv_iconst (v := 0) hx hb dX5_readHead_72 (by decide) ?_
          exact hret 0 (rn_7, rf_7, rp_7, la, ld, lq, lz, lm, lv) _ _ _ _ dX5_readHead_73 (by decide) h hP hD hS
      · have h := h.1 c_6
        refine lv_iconst (v := 0) hx hb dX5_readHead_54 (by decide) ?_
        exact hret 0 (rn_5, rf_5, rp_5, la, ld, lq, lz, lm, lv) _ _ _ _ dX5_readHead_55 (by decide) h hP hD hS
    · have h := h.1 c_4
      refine lv_iconst (v := 0) hx hb dX5_readHead_34 (by decide) ?_
      exact hret 0 (rn_3, rf_3, rp_3, la, ld, lq, lz, lm, lv) _ _ _ _ dX5_readHead_35 (by decide) h hP hD hS
  · have h := h.1 c_2
    refine lv_iconst (v := 0) hx hb dX5_readHead_16 (by decide) ?_
    exact hret 0 (rn_1, rf_1, rp_1, la, ld, lq, lz, lm, lv) _ _ _ _ dX5_readHead_17 (by decide) h hP hD hS
def wp_X5_readMode (rn : Int32) (rf : Int32) (rp : Int32) (sc : Int32) (sb : (Nat → Int32)) (la : Int32) (lm : (Nat → Int32)) (v2 : Int32) (K : Int32 → Int32 → Int32 → Int32 → (Nat → Int32) → Prop) : Prop := wp_X4_likelyMode la lm v2 (fun (r_1 : Int32) => wp_X0_readBits rn rf rp sc sb 1 (fun (r_2 : Int32) (rn_2 : Int32) (rf_2 : Int32) (rp_2 : Int32) => ((r_2 = (-1) → K 0 rn_2 rf_2 rp_2 lm) ∧ (¬ r_2 = (-1) → ((r_2 = 1 → vp_in v2 64 ∧ K 1 rn_2 rf_2 rp_2 (jup lm v2 r_1)) ∧ (¬ r_2 = 1 → wp_X0_readBits rn_2 rf_2 rp_2 sc sb 3 (fun (r_5 : Int32) (rn_5 : Int32) (rf_5 : Int32) (rp_5 : Int32) => ((r_5 = (-1) → K 0 rn_5 rf_5 rp_5 lm) ∧ (¬ r_5 = (-1) → jn1 (fun (t0_7 : Int32) => wp_X4_hasAbove la v2 (fun (r_8 : Int32) => wp_X4_hasLeft la v2 (fun (r_9 : Int32) => wp_X9_hasNeeded t0_7 r_8 r_9 (fun (r_10 : Int32) => ((r_10 = 0 → wp_X0_fail rf_5 rp_5 3 rn_2 (fun (rf_14 : Int32) (rp_14 : Int32) => K 0 rn_5 rf_14 rp_14 lm)) ∧ (¬ r_10 = 0 → vp_in v2 64 ∧ K 1 rn_5 rf_5 rp_5 (jup lm v2 t0_7))))))) (fun J_7 => ((r_1 ≤ r_5 → J_7 (r_5 + 1)) ∧ (¬ r_1 ≤ r_5 → J_7 r_5))))))))))))
abbrev jw_X5_readMode : List Cond := .code yX5_readMode cX5_readMode 8 (some .boolean) :: jmAll
abbrev rmX5_readMode : Room := { frames := 2, cells := 0, slots := 0, locals := 45 }
set_option maxHeartbeats 4000000 in
set_option maxRecDepth 100000 in
theorem c_X5_readMode (l : Launch) (D : va_G) (cI cB : ClassId) (tt : Nat × Nat × Nat) (a_pr a_br a_st a_stb a_pl a_plm a_pll : Nat) (sz : Nat) (rn : Int32) (rf : Int32) (rp : Int32) (sc : Int32) (sb : (Nat → Int32)) (la : Int32) (ld : Int32) (lq : Int32) (lz : Int32) (lm : (Nat → Int32)) (lv : (Nat → Int32)) (v2 : Int32) {K : Int32 → Int32 → Int32 → Int32 → (Nat → Int32) → Prop} (h : wp_X5_readMode rn rf rp sc sb la lm v2 K) : Met l yX5_readMode jw_X5_readMode rmX5_readMode (va_Pc [.ref a_pr, .ref a_pl, .int v2] (jm_Pre D cI cB tt (wd_pr_br_st_stb_pl_plm_pll cI cB a_pr a_br a_st a_stb a_pl a_plm a_pll rn rf rp sc sb la ld lq lz lm lv) sz)) (va_Qi (fun (r : Int32) (u : Int32 × Int32 × Int32 × (Nat → Int32)) => pr4 (K r) u) (jm_Post D cI cB (wd_pr_br_st_stb_pl_plm_pll cI cB a_pr a_br a_st a_stb a_pl a_plm a_pll rn rf rp sc sb la ld lq lz lm lv) sz (fun (u : Int32 × Int32 × Int32 × (Nat → Int32)) => wd_pr_br_st_stb_pl_plm_pll cI cB a_pr a_br a_st a_stb a_pl a_plm a_pll u.1 u.2.1 u.2.2.1 sc sb la ld lq lz u.2.2.2 lv)) (va_A (wd_pr_br_st_stb_pl_plm_pll cI cB a_pr a_br a_st a_stb a_pl a_plm a_pll rn rf rp sc sb la ld lq lz lm lv) sz)) 0 0 (va_A (wd_pr_br_st_stb_pl_plm_pll cI cB a_pr a_br a_st a_stb a_pl a_plm a_pll rn rf rp sc sb la ld lq lz lm lv) sz) := by
  refine jm_metI (by decide +kernel) rfl rfl (Nat.le_of_ble_eq_true rfl) ?_
  intro p e s m args below meth c A Q ls C0 hP hD hl hret
  obtain ⟨hx, hb, hml, hr, hown, hts, hlocks, hA, hK, hE⟩ := C0
  have hS : va_S A s.heap s.heap [] := va_S.rf
  have hl : lv_has ls 8 [(0, .ref a_pr), (1, .ref a_pl), (2, .int v2)] := hl
  unfold wp_X5_readMode at h
  have hP : va_P D vwCl [(a_pr, .inr (5, [.ref a_br])), (a_br, .inr (0, [.ref a_st, .int rn, .int rf, .int rp])), (a_st, .inr (7, [.ref a_stb, .int sc])), (a_stb, .inl (cB, 8000, .inl sb)), (a_pl, .inr (4, [.ref a_plm, .ref a_pll, .int la, .int ld, .int lq, .int lz])), (a_plm, .inl (cI, 64, .inl lm)), (a_pll, .inl (cI, 1024, .inl lv))] s.heap := hP
  have hD : va_D A [(a_pr, .inr (5, [.ref a_br])), (a_br, .inr (0, [.ref a_st, .int rn, .int rf, .int rp])), (a_st, .inr (7, [.ref a_stb, .int sc])), (a_stb, .inl (cB, 8000, .inl sb)), (a_pl, .inr (4, [.ref a_plm, .ref a_pll, .int la, .int ld, .int lq, .int lz])), (a_plm, .inl (cI, 64, .inl lm)), (a_pll, .inl (cI, 1024, .inl lv))] := hD
  have iX0 : ∀ w ∈ wsX00, w ∈ jw_X5_readMode := fun w h => List.mem_cons_of_mem _ (jm_iX0 w h)
  have iX4 : ∀ w ∈ wsX40, w ∈ jw_X5_readMode := fun w h => List.mem_cons_of_mem _ (jm_iX4 w h)
  have iX5 : ∀ w ∈ wsX50, w ∈ jw_X5_readMode := fun w h => List.mem_cons_of_mem _ (jm_iX5 w h)
  have lk14 := hts (.fieldLink RX5 14 "IntraMill$PlanReader" "bits" "LIntraMill$BitReader;") (List.mem_cons_of_mem _ mw_213)
  refine lv_aload_n hx hb dX5_readMode_0 rfl (lv_at hl 1 rfl) ?_
  refine lv_iload_n hx hb dX5_readMode_1 rfl (lv_at hl 2 rfl) ?_
  have hPc := hP.sub (ws' := [(a_pl, .inr (4, [.ref a_plm, .ref a_pll, .int la, .int ld, .int lq, .int lz])), (a_plm, .inl (cI, 64, .inl lm)), (a_pll, .inl (cI, 1024, .inl lv))]) [4, 5, 6] rfl
  have hDc := hD.sub (ws' := [(a_pl, .inr (4, [.ref a_plm, .ref a_pll, .int la, .int ld, .int lq, .int lz])), (a_plm, .inl (cI, 64, .inl lm)), (a_pll, .inl (cI, 1024, .inl lv))]) [4, 5, 6] (by decide) rfl
  have hFc := va_free (wc := [(a_pl, .inr (4, [.ref a_plm, .ref a_pll, .int la, .int ld, .int lq, .int lz])), (a_plm, .inl (cI, 64, .inl lm)), (a_pll, .inl (cI, 1024, .inl lv))]) hD hS hA [4, 5, 6] rfl
  refine jm_calli (wr := [(a_pr, .inr (5, [.ref a_br])), (a_br, .inr (0, [.ref a_st, .int rn, .int rf, .int rp])), (a_st, .inr (7, [.ref a_stb, .int sc])), (a_stb, .inl (cB, 8000, .inl sb))]) (va_runV (As := [.int v2]) (rest := []) ⟨hx, hb, hml, hown, hts⟩ (c_X4_likelyMode l D cI cB tt a_pl a_plm a_pll s.heap.size la ld lq lz lm lv v2 h) (cwV 1 hts (jm_gV mw_351 mw_352 mw_353 mw_64 mw_354) rfl rfl rfl (by decide +kernel) ⟨Nat.le_of_ble_eq_true rfl, Nat.le_of_ble_eq_true rfl⟩) ⟨jm_blind, va_recv hK hPc (ci := 4) (q0 := 0) rfl rfl, jm_pre hK hE hS hPc hDc hFc _⟩ rfl rfl hl.1 rfl (lv_room (Nat.le_of_ble_eq_true rfl)) dX5_readMode_2 ⟨Nat.zero_le _, Nat.zero_le _⟩) hS hP hD [4, 5, 6] [0, 1, 2, 3] rfl rfl (by decide) (by decide) hFc (fun r_1 u_1 H_1 locs hw hP hD hS => ?_)
  have h := hw
  have hP : va_P D vwCl [(a_pr, .inr (5, [.ref a_br])), (a_br, .inr (0, [.ref a_st, .int rn, .int rf, .int rp])), (a_st, .inr (7, [.ref a_stb, .int sc])), (a_stb, .inl (cB, 8000, .inl sb)), (a_pl, .inr (4, [.ref a_plm, .ref a_pll, .int la, .int ld, .int lq, .int lz])), (a_plm, .inl (cI, 64, .inl lm)), (a_pll, .inl (cI, 1024, .inl lv))] H_1 := hP.sub [0, 1, 2, 3, 4, 5, 6] rfl
  have hD : va_D A [(a_pr, .inr (5, [.ref a_br])), (a_br, .inr (0, [.ref a_st, .int rn, .int rf, .int rp])), (a_st, .inr (7, [.ref a_stb, .int sc])), (a_stb, .inl (cB, 8000, .inl sb)), (a_pl, .inr (4, [.ref a_plm, .ref a_pll, .int la, .int ld, .int lq, .int lz])), (a_plm, .inl (cI, 64, .inl lm)), (a_pll, .inl (cI, 1024, .inl lv))] := hD.sub [0, 1, 2, 3, 4, 5, 6] (by decide) rfl
  refine lv_istore_n (lv' := [(3, .int r_1), (0, .ref a_pr), (1, .ref a_pl), (2, .int v2)]) hx hb dX5_readMode_5 rfl hl (by decide) rfl (fun ls hl => ?_)
  refine lv_aload_n hx hb dX5_readMode_6 rfl (lv_at hl 1 rfl) ?_
  refine va_get (D := D) (ci := 5) (v := .ref a_br) (C := RX5) (T := TX5) (N := 1) hx hb hts iX5 hown hK hP 0 rfl rfl 0 (by decide) lk14 (fun _ h9 => h9) rfl dX5_readMode_7 ?_
  refine lv_iconst (v := 1) hx hb dX5_readMode_10 (by decide) ?_
  have hPc := hP.sub (ws' := [(a_br, .inr (0, [.ref a_st, .int rn, .int rf, .int rp])), (a_st, .inr (7, [.ref a_stb, .int sc])), (a_stb, .inl (cB, 8000, .inl sb))]) [1, 2, 3] rfl
  have hDc := hD.sub (ws' := [(a_br, .inr (0, [.ref a_st, .int rn, .int rf, .int rp])), (a_st, .inr (7, [.ref a_stb, .int sc])), (a_stb, .inl (cB, 8000, .inl sb))]) [1, 2, 3] (by decide) rfl
  have hFc := va_free (wc := [(a_br, .inr (0, [.ref a_st, .int rn, .int rf, .int rp])), (a_st, .inr (7, [.ref a_stb, .int sc])), (a_stb, .inl (cB, 8000, .inl sb))]) hD hS hA [1, 2, 3] rfl
  refine jm_calli (wr := [(a_pr, .inr (5, [.ref a_br])), (a_pl, .inr (4, [.ref a_plm, .ref a_pll, .int la, .int ld, .int lq, .int lz])), (a_plm, .inl (cI, 64, .inl lm)), (a_pll, .inl (cI, 1024, .inl lv))]) (va_runV (As := [.int 1]) (rest := []) ⟨hx, hb, hml, hown, hts⟩ (c_X0_readBits l D cI cB tt a_br a_st a_stb H_1.size rn rf rp sc sb 1 h) (cwV 1 hts (jm_gV mw_341 mw_338 mw_339 mw_63 mw_340) rfl rfl rfl (by decide +kernel) ⟨Nat.le_of_ble_eq_true rfl, Nat.le_of_ble_eq_true rfl⟩) ⟨jm_blind, va_recv hK hPc (ci := 0) (q0 := 0) rfl rfl, jm_pre hK hE hS hPc hDc hFc _⟩ rfl rfl hl.1 rfl (lv_room (Nat.le_of_ble_eq_true rfl)) dX5_readMode_11 ⟨Nat.zero_le _, Nat.zero_le _⟩) hS hP hD [1, 2, 3] [0, 4, 5, 6] rfl rfl (by decide) (by decide) hFc (fun r_2 u_2 H_2 locs hw hP hD hS => ?_)
  obtain ⟨rn_2, rf_2, rp_2⟩ := u_2
  have h := pr3_out hw
  have hP : va_P D vwCl [(a_pr, .inr (5, [.ref a_br])), (a_br, .inr (0, [.ref a_st, .int rn_2, .int rf_2, .int rp_2])), (a_st, .inr (7, [.ref a_stb, .int sc])), (a_stb, .inl (cB, 8000, .inl sb)), (a_pl, .inr (4, [.ref a_plm, .ref a_pll, .int la, .int ld, .int lq, .int lz])), (a_plm, .inl (cI, 64, .inl lm)), (a_pll, .inl (cI, 1024, .inl lv))] H_2 := hP.sub [0, 4, 5, 6, 1, 2, 3] rfl
  have hD : va_D A [(a_pr, .inr (5, [.ref a_br])), (a_br, .inr (0, [.ref a_st, .int rn_2, .int rf_2, .int rp_2])), (a_st, .inr (7, [.ref a_stb, .int sc])), (a_stb, .inl (cB, 8000, .inl sb)), (a_pl, .inr (4, [.ref a_plm, .ref a_pll, .int la, .int ld, .int lq, .int lz])), (a_plm, .inl (cI, 64, .inl lm)), (a_pll, .inl (cI, 1024, .inl lv))] := hD.sub [0, 4, 5, 6, 1, 2, 3] (by decide) rfl
  refine lv_istore (lv' := [(4, .int r_2), (3, .int r_1), (0, .ref a_pr), (1, .ref a_pl), (2, .int v2)]) hx hb dX5_readMode_14 hl (by decide) rfl (fun ls hl => ?_)
  refine lv_iload hx hb dX5_readMode_16 (lv_at hl 0 rfl) ?_
  refine lv_iconst (v := (-1)) hx hb dX5_readMode_18 (by decide) ?_
  refine lv_icmp_ne (tgt := 24) hx hb dX5_readMode_19 (by decide) (fun c_3 => ?_) (fun c_3 => ?_)
  · have h := h.2 c_3
    refine lv_iload hx hb dX5_readMode_24 (lv_at hl 0 rfl) ?_
    refine lv_iconst (v := 1) hx hb dX5_readMode_26 (by decide) ?_
    refine lv_icmp_ne (tgt := 39) hx hb dX5_readMode_27 (by decide) (fun c_4 => ?_) (fun c_4 => ?_)
    · have h := h.2 c_4
      refine lv_aload_n hx hb dX5_readMode_39 rfl (lv_at hl 2 rfl) ?_
      refine va_get (D := D) (ci := 5) (v := .ref a_br) (C := RX5) (T := TX5) (N := 1) hx hb hts iX5 hown hK hP 0 rfl rfl 0 (by decide) lk14 (fun _ h9 => h9) rfl dX5_readMode_40 ?_
      refine va_getN (D := D) (ci := 0) (v := .int rn_2) (C := RX0) (T := TX0) (N := 4) hx hb hts iX0 hown hK hP 1 rfl rfl 1 (by decide) (va_Nw.use rfl (hE.1 ("IntraMill$PlanReader", 77, "IntraMill$BitReader", "next", "I") (List.mem_of_getElem? (i := 20) rfl))) (fun _ h9 => h9) rfl dX5_readMode_43 ?_
      refine lv_istore (lv' := [(5, .int rn_2), (4, .int r_2), (3, .int r_1), (0, .ref a_pr), (1, .ref a_pl), (2, .int v2)]) hx hb dX5_readMode_46 hl (by decide) rfl (fun ls hl => ?_)
      refine lv_aload_n hx hb dX5_readMode_48 rfl (lv_at hl 3 rfl) ?_
      refine va_get (D := D) (ci := 5) (v := .ref a_br) (C := RX5) (T := TX5) (N := 1) hx hb hts iX5 hown hK hP 0 rfl rfl 0 (by decide) lk14 (fun _ h9 => h9) rfl dX5_readMode_49 ?_
      refine lv_iconst (v := 3) hx hb dX5_readMode_52 (by decide) ?_
      have hPc := hP.sub (ws' := [(a_br, .inr (0, [.ref a_st, .int rn_2, .int rf_2, .int rp_2])), (a_st, .inr (7, [.ref a_stb, .int sc])), (a_stb, .inl (cB, 8000, .inl sb))]) [1, 2, 3] rfl
      have hDc := hD.sub (ws' := [(a_br, .inr (0, [.ref a_st, .int rn_2, .int rf_2, .int rp_2])), (a_st, .inr (7, [.ref a_stb, .int sc])), (a_stb, .inl (cB, 8000, .inl sb))]) [1, 2, 3] (by decide) rfl
      have hFc := va_free (wc := [(a_br, .inr (0, [.ref a_st, .int rn_2, .int rf_2, .int rp_2])), (a_st, .inr (7, [.ref a_stb, .int sc])), (a_stb, .inl (cB, 8000, .inl sb))]) hD hS hA [1, 2, 3] rfl
      refine jm_calli (wr := [(a_pr, .inr (5, [.ref a_br])), (a_pl, .inr (4, [.ref a_plm, .ref a_pll, .int la, .int ld, .int lq, .int lz])), (a_plm, .inl (cI, 64, .inl lm)), (a_pll, .inl (cI, 1024, .inl lv))]) (va_runV (As := [.int 3]) (rest := []) ⟨hx, hb, hml, hown, hts⟩ (c_X0_readBits l D cI cB tt a_br a_st a_stb H_2.size rn_2 rf_2 rp_2 sc sb 3 h) (cwV 1 hts (jm_gV mw_341 mw_338 mw_339 mw_63 mw_340) rfl rfl rfl (by decide +kernel) ⟨Nat.le_of_ble_eq_true rfl, Nat.le_of_ble_eq_true rfl⟩) ⟨jm_blind, va_recv hK hPc (ci := 0) (q0 := 0) rfl rfl, jm_pre hK hE hS hPc hDc hFc _⟩ rfl rfl hl.1 rfl (lv_room (Nat.le_of_ble_eq_true rfl)) dX5_readMode_53 ⟨Nat.zero_le _, Nat.zero_le _⟩) hS hP hD [1, 2, 3] [0, 4, 5, 6] rfl rfl (by decide) (by decide) hFc (fun r_5 u_5 H_5 locs hw hP hD hS => ?_)
      obtain ⟨rn_5, rf_5, rp_5⟩ := u_5
      have h := pr3_out hw
      have hP : va_P D vwCl [(a_pr, .inr (5, [.ref a_br])), (a_br, .inr (0, [.ref a_st, .int rn_5, .int rf_5, .int rp_5])), (a_st, .inr (7, [.ref a_stb, .int sc])), (a_stb, .inl (cB, 8000, .inl sb)), (a_pl, .inr (4, [.ref a_plm, .ref a_pll, .int la, .int ld, .int lq, .int lz])), (a_plm, .inl (cI, 64, .inl lm)), (a_pll, .inl (cI, 1024, .inl lv))] H_5 := hP.sub [0, 4, 5, 6, 1, 2, 3] rfl
      have hD : va_D A [(a_pr, .inr (5, [.ref a_br])), (a_br, .inr (0, [.ref a_st, .int rn_5, .int rf_5, .int rp_5])), (a_st, .inr (7, [.ref a_stb, .int sc])), (a_stb, .inl (cB, 8000, .inl sb)), (a_pl, .inr (4, [.ref a_plm, .ref a_pll, .int la, .int ld, .int lq, .int lz])), (a_plm, .inl (cI, 64, .inl lm)), (a_pll, .inl (cI, 1024, .inl lv))] := hD.sub [0, 4, 5, 6, 1, 2, 3] (by decide) rfl
      refine lv_istore (lv' := [(6, .int r_5), (5, .int rn_2), (4, .int r_2), (3, .int r_1), (0, .ref a_pr), (1, .ref a_pl), (2, .int v2)]) hx hb dX5_readMode_56 hl (by decide) rfl (fun ls hl => ?_)
      refine lv_iload hx hb dX5_readMode_58 (lv_at hl 0 rfl) ?_
      refine lv_iconst (v := (-1)) hx hb dX5_readMode_60 (by decide) ?_
      refine lv_icmp_ne (tgt := 66) hx hb dX5_readMode_61 (by decide) (fun c_6 => ?_) (fun c_6 => ?_)
      · have h := h.2 c_6
        refine lv_iload hx hb dX5_readMode_66 (lv_at hl 0 rfl) ?_
        refine lv_iload_n hx hb dX5_readMode_68 rfl (lv_at hl 3 rfl) ?_
        obtain ⟨J_7, hj_7, h⟩ := jn1_out h
        have hJ_7 : ∀ (t0_7 : Int32), ∀ (H : Heap) (locs : List Loc) (ls : Array Slot), J_7 t0_7 → va_P D vwCl [(a_pr, .inr (5, [.ref a_br])), (a_br, .inr (0, [.ref a_st, .int rn_5, .int rf_5, .int rp_5])), (a_st, .inr (7, [.ref a_stb, .int sc])), (a_stb, .inl (cB, 8000, .inl sb)), (a_pl, .inr (4, [.ref a_plm, .ref a_pll, .int la, .int ld, .int lq, .int lz])), (a_plm, .inl (cI, 64, .inl lm)), (a_pll, .inl (cI, 1024, .inl lv))] H → va_D A [(a_pr, .inr (5, [.ref a_br])), (a_br, .inr (0, [.ref a_st, .int rn_5, .int rf_5, .int rp_5])), (a_st, .inr (7, [.ref a_stb, .int sc])), (a_stb, .inl (cB, 8000, .inl sb)), (a_pl, .inr (4, [.ref a_plm, .ref a_pll, .int la, .int ld, .int lq, .int lz])), (a_plm, .inl (cI, 64, .inl lm)), (a_pll, .inl (cI, 1024, .inl lv))] → va_S A s.heap H locs → lv_has ls 8 [(0, .ref a_pr), (1, .ref a_pl), (2, .int v2), (3, .int r_1), (4, .int r_2), (5, .int rn_2), (6, .int r_5)] → W p l e rmX5_readMode s m args below meth c H locs 0 0 Q (F0 m 81 ls [.int t0_7]) := by
          intro t0_7 H locs ls h hP hD hS hl
          have h := hj_7 t0_7 h
          refine lv_istore (lv' := [(7, .int t0_7), (0, .ref a_pr), (1, .ref a_pl), (2, .int v2), (3, .int r_1), (4, .int r_2), (5, .int rn_2), (6, .int r_5)]) hx hb dX5_readMode_81 hl (by decide) rfl (fun ls hl => ?_)
          refine lv_iload hx hb dX5_readMode_83 (lv_at hl 0 rfl) ?_
          refine lv_aload_n hx hb dX5_readMode_85 rfl (lv_at hl 2 rfl) ?_
          refine lv_iload_n hx hb dX5_readMode_86 rfl (lv_at hl 3 rfl) ?_
          have hPc := hP.sub (ws' := [(a_pl, .inr (4, [.ref a_plm, .ref a_pll, .int la, .int ld, .int lq, .int lz])), (a_plm, .inl (cI, 64, .inl lm)), (a_pll, .inl (cI, 1024, .inl lv))]) [4, 5, 6] rfl
          have hDc := hD.sub (ws' := [(a_pl, .inr (4, [.ref a_plm, .ref a_pll, .int la, .int ld, .int lq, .int lz])), (a_plm, .inl (cI, 64, .inl lm)), (a_pll, .inl (cI, 1024, .inl lv))]) [4, 5, 6] (by decide) rfl
          have hFc := va_free (wc := [(a_pl, .inr (4, [.ref a_plm, .ref a_pll, .int la, .int ld, .int lq, .int lz])), (a_plm, .inl (cI, 64, .inl lm)), (a_pll, .inl (cI, 1024, .inl lv))]) hD hS hA [4, 5, 6] rfl
          refine jm_calli (wr := [(a_pr, .inr (5, [.ref a_br])), (a_br, .inr (0, [.ref a_st, .int rn_5, .int rf_5, .int rp_5])), (a_st, .inr (7, [.ref a_stb, .int sc])), (a_stb, .inl (cB, 8000, .inl sb))]) (va_runV (As := [.int v2]) (rest := [.int t0_7]) ⟨hx, hb, hml, hown, hts⟩ (c_X4_hasAbove l D cI cB tt a_pl a_plm a_pll H.size la ld lq lz lm lv v2 h) (cwV 1 hts (jm_gV mw_366 mw_356 mw_357 mw_64 mw_358) rfl rfl rfl (by decide +kernel) ⟨Nat.le_of_ble_eq_true rfl, Nat.le_of_ble_eq_true rfl⟩) ⟨jm_blind, va_recv hK hPc (ci := 4) (q0 := 0) rfl rfl, jm_pre hK hE hS hPc hDc hFc _⟩ rfl rfl hl.1 rfl (lv_room (Nat.le_of_ble_eq_true rfl)) dX5_readMode_87 ⟨Nat.zero_le _, Nat.zero_le _⟩) hS hP hD [4, 5, 6] [0, 1, 2, 3] rfl rfl (by decide) (by decide) hFc (fun r_8 u_8 H_8 locs hw hP hD hS => ?_)
          have h := hw
          have hP : va_P D vwCl [(a_pr, .inr (5, [.ref a_br])), (a_br, .inr (0, [.ref a_st, .int rn_5, .int rf_5, .int rp_5])), (a_st, .inr (7, [.ref a_stb, .int sc])), (a_stb, .inl (cB, 8000, .inl sb)), (a_pl, .inr (4, [.ref a_plm, .ref a_pll, .int la, .int ld, .int lq, .int lz])), (a_plm, .inl (cI, 64, .inl lm)), (a_pll, .inl (cI, 1024, .inl lv))] H_8 := hP.sub [0, 1, 2, 3, 4, 5, 6] rfl
          have hD : va_D A [(a_pr, .inr (5, [.ref a_br])), (a_br, .inr (0, [.ref a_st, .int rn_5, .int rf_5, .int rp_5])), (a_st, .inr (7, [.ref a_stb, .int sc])), (a_stb, .inl (cB, 8000, .inl sb)), (a_pl, .inr (4, [.ref a_plm, .ref a_pll, .int la, .int ld, .int lq, .int lz])), (a_plm, .inl (cI, 64, .inl lm)), (a_pll, .inl (cI, 1024, .inl lv))] := hD.sub [0, 1, 2, 3, 4, 5, 6] (by decide) rfl
          refine lv_aload_n hx hb dX5_readMode_90 rfl (lv_at hl 2 rfl) ?_
          refine lv_iload_n hx hb dX5_readMode_91 rfl (lv_at hl 3 rfl) ?_
          have hPc := hP.sub (ws' := [(a_pl, .inr (4, [.ref a_plm, .ref a_pll, .int la, .int ld, .int lq, .int lz])), (a_plm, .inl (cI, 64, .inl lm)), (a_pll, .inl (cI, 1024, .inl lv))]) [4, 5, 6] rfl
          have hDc := hD.sub (ws' := [(a_pl, .inr (4, [.ref a_plm, .ref a_pll, .int la, .int ld, .int lq, .int lz])), (a_plm, .inl (cI, 64, .inl lm)), (a_pll, .inl (cI, 1024, .inl lv))]) [4, 5, 6] (by decide) rfl
          have hFc := va_free (wc := [(a_pl, .inr (4, [.ref a_plm, .ref a_pll, .int la, .int ld, .int lq, .int lz])), (a_plm, .inl (cI, 64, .inl lm)), (a_pll, .inl (cI, 1024, .inl lv))]) hD hS hA [4, 5, 6] rfl
          refine jm_calli (wr := [(a_pr, .inr (5, [.ref a_br])), (a_br, .inr (0, [.ref a_st, .int rn_5, .int rf_5, .int rp_5])), (a_st, .inr (7, [.ref a_stb, .int sc])), (a_stb, .inl (cB, 8000, .inl sb))]) (va_runV (As := [.int v2]) (rest := [.int r_8, .int t0_7]) ⟨hx, hb, hml, hown, hts⟩ (c_X4_hasLeft l D cI cB tt a_pl a_plm a_pll H_8.size la ld lq lz lm lv v2 h) (cwV 1 hts (jm_gV mw_367 mw_360 mw_361 mw_64 mw_362) rfl rfl rfl (by decide +kernel) ⟨Nat.le_of_ble_eq_true rfl, Nat.le_of_ble_eq_true rfl⟩) ⟨jm_blind, va_recv hK hPc (ci := 4) (q0 := 0) rfl rfl, jm_pre hK hE hS hPc hDc hFc _⟩ rfl rfl hl.1 rfl (lv_room (Nat.le_of_ble_eq_true rfl)) dX5_readMode_92 ⟨Nat.zero_le _, Nat.zero_le _⟩) hS hP hD [4, 5, 6] [0, 1, 2, 3] rfl rfl (by decide) (by decide) hFc (fun r_9 u_9 H_9 locs hw hP hD hS => ?_)
          have h := hw
          have hP : va_P D vwCl [(a_pr, .inr (5, [.ref a_br])), (a_br, .inr (0, [.ref a_st, .int rn_5, .int rf_5, .int rp_5])), (a_st, .inr (7, [.ref a_stb, .int sc])), (a_stb, .inl (cB, 8000, .inl sb)), (a_pl, .inr (4, [.ref a_plm, .ref a_pll, .int la, .int ld, .int lq, .int lz])), (a_plm, .inl (cI, 64, .inl lm)), (a_pll, .inl (cI, 1024, .inl lv))] H_9 := hP.sub [0, 1, 2, 3, 4, 5, 6] rfl
          have hD : va_D A [(a_pr, .inr (5, [.ref a_br])), (a_br, .inr (0, [.ref a_st, .int rn_5, .int rf_5, .int rp_5])), (a_st, .inr (7, [.ref a_stb, .int sc])), (a_stb, .inl (cB, 8000, .inl sb)), (a_pl, .inr (4, [.ref a_plm, .ref a_pll, .int la, .int ld, .int lq, .int lz])), (a_plm, .inl (cI, 64, .inl lm)), (a_pll, .inl (cI, 1024, .inl lv))] := hD.sub [0, 1, 2, 3, 4, 5, 6] (by decide) rfl
          have hPc := hP.sub (ws' := []) [] rfl
          have hDc := hD.sub (ws' := []) [] (by decide) rfl
          have hFc := va_free (wc := []) hD hS hA [] rfl
          refine jm_calli (wr := [(a_pr, .inr (5, [.ref a_br])), (a_br, .inr (0, [.ref a_st, .int rn_5, .int rf_5, .int rp_5])), (a_st, .inr (7, [.ref a_stb, .int sc])), (a_stb, .inl (cB, 8000, .inl sb)), (a_pl, .inr (4, [.ref a_plm, .ref a_pll, .int la, .int ld, .int lq, .int lz])), (a_plm, .inl (cI, 64, .inl lm)), (a_pll, .inl (cI, 1024, .inl lv))]) (va_runSN (As := [.int t0_7, .int r_8, .int r_9]) (rest := []) ⟨hx, hb, hml, hown, hts⟩ (c_X9_hasNeeded l D cI cB tt H_9.size t0_7 r_8 r_9 h) ⟨va_cnB 3 hts (jm_gN mw_370) rfl rfl rfl (hE.2.1 ("IntraMill$PlanReader", 87, yX9_hasNeeded) (List.mem_of_getElem? (i := 7) rfl)) (hts (.initialized RX9) (List.mem_cons_of_mem _ mw_55)) (by decide +kernel) ⟨Nat.le_of_ble_eq_true rfl, Nat.le_of_ble_eq_true rfl⟩, hts (.static yX9_hasNeeded) (List.mem_cons_of_mem _ mw_369), trivial⟩ ⟨jm_blind, jm_pre hK hE hS hPc hDc hFc _⟩ rfl rfl hl.1 rfl (lv_room (Nat.le_of_ble_eq_true rfl)) dX5_readMode_95 ⟨Nat.zero_le _, Nat.zero_le _⟩) hS hP hD [] [0, 1, 2, 3, 4, 5, 6] rfl rfl (by decide) (by decide) hFc (fun r_10 u_10 H_10 locs hw hP hD hS => ?_)
          have h := hw
          have hP : va_P D vwCl [(a_pr, .inr (5, [.ref a_br])), (a_br, .inr (0, [.ref a_st, .int rn_5, .int rf_5, .int rp_5])), (a_st, .inr (7, [.ref a_stb, .int sc])), (a_stb, .inl (cB, 8000, .inl sb)), (a_pl, .inr (4, [.ref a_plm, .ref a_pll, .int la, .int ld, .int lq, .int lz])), (a_plm, .inl (cI, 64, .inl lm)), (a_pll, .inl (cI, 1024, .inl lv))] H_10 := hP.sub [0, 1, 2, 3, 4, 5, 6] rfl
          have hD : va_D A [(a_pr, .inr (5, [.ref a_br])), (a_br, .inr (0, [.ref a_st, .int rn_5, .int rf_5, .int rp_5])), (a_st, .inr (7, [.ref a_stb, .int sc])), (a_stb, .inl (cB, 8000, .inl sb)), (a_pl, .inr (4, [.ref a_plm, .ref a_pll, .int la, .int ld, .int lq, .int lz])), (a_plm, .inl (cI, 64, .inl lm)), (a_pll, .inl (cI, 1024, .inl lv))] := hD.sub [0, 1, 2, 3, 4, 5, 6] (by decide) rfl
          refine lv_if_ne (tgt := 113) hx hb dX5_readMode_98 (by decide) (fun c_11 => ?_) (fun c_11 => ?_)
          · have h := h.2 c_11
            refine lv_aload_n hx hb dX5_readMode_113 rfl (lv_at hl 2 rfl) ?_
            refine va_getN (D := D) (ci := 4) (v := .ref a_plm) (C := RX4) (T := TX4) (N := 6) hx hb hts iX4 hown hK hP 4 rfl rfl 0 (by decide) (va_Nw.use rfl (hE.1 ("IntraMill$PlanReader", 73, "IntraMill$Plan", "modes", "[I") (List.mem_of_getElem? (i := 19) rfl))) (fun _ h9 => h9) rfl dX5_readMode_114 ?_
            refine lv_iload_n hx hb dX5_readMode_117 rfl (lv_at hl 3 rfl) ?_
            refine lv_iload hx hb dX5_readMode_118 (lv_at hl 0 rfl) ?_
            obtain ⟨hi_12, h⟩ := h
            refine va_iast hx hb hK hP hD hS 5 0 rfl rfl hi_12 dX5_readMode_120 (fun H_13 locs hP hD hS => ?_)
            have hP : va_P D vwCl [(a_pr, .inr (5, [.ref a_br])), (a_br, .inr (0, [.ref a_st, .int rn_5, .int rf_5, .int rp_5])), (a_st, .inr (7, [.ref a_stb, .int sc])), (a_stb, .inl (cB, 8000, .inl sb)), (a_pl, .inr (4, [.ref a_plm, .ref a_pll, .int la, .int ld, .int lq, .int lz])), (a_plm, .inl (cI, 64, .inl (jup lm v2 t0_7))), (a_pll, .inl (cI, 1024, .inl lv))] H_13 := hP
            have hD : va_D A [(a_pr, .inr (5, [.ref a_br])), (a_br, .inr (0, [.ref a_st, .int rn_5, .int rf_5, .int rp_5])), (a_st, .inr (7, [.ref a_stb, .int sc])), (a_stb, .inl (cB, 8000, .inl sb)), (a_pl, .inr (4, [.ref a_plm, .ref a_pll, .int la, .int ld, .int lq, .int lz])), (a_plm, .inl (cI, 64, .inl (jup lm v2 t0_7))), (a_pll, .inl (cI, 1024, .inl lv))] := hD
            refine lv_iconst (v := 1) hx hb dX5_readMode_121 (by decide) ?_
            exact hret 1 (rn_5, rf_5, rp_5, jup lm v2 t0_7) _ _ _ _ dX5_readMode_122 (by decide) h hP hD hS
          · have h := h.1 c_11
            refine lv_aload_n hx hb dX5_readMode_101 rfl (lv_at hl 1 rfl) ?_
            refine va_get (D := D) (ci := 5) (v := .ref a_br) (C := RX5) (T := TX5) (N := 1) hx hb hts iX5 hown hK hP 0 rfl rfl 0 (by decide) lk14 (fun _ h9 => h9) rfl dX5_readMode_102 ?_
            refine lv_iconst (v := 3) hx hb dX5_readMode_105 (by decide) ?_
            refine lv_iload hx hb dX5_readMode_106 (lv_at hl 6 rfl) ?_
            have hPc := hP.sub (ws' := [(a_br, .inr (0, [.ref a_st, .int rn_5, .int rf_5, .int rp_5])), (a_st, .inr (7, [.ref a_stb, .int sc])), (a_stb, .inl (cB, 8000, .inl sb))]) [1, 2, 3] rfl
            have hDc := hD.sub (ws' := [(a_br, .inr (0, [.ref a_st, .int rn_5, .int rf_5, .int rp_5])), (a_st, .inr (7, [.ref a_stb, .int sc])), (a_stb, .inl (cB, 8000, .inl sb))]) [1, 2, 3] (by decide) rfl
            have hFc := va_free (wc := [(a_br, .inr (0, [.ref a_st, .int rn_5, .int rf_5, .int rp_5])), (a_st, .inr (7, [.ref a_stb, .int sc])), (a_stb, .inl (cB, 8000, .inl sb))]) hD hS hA [1, 2, 3] rfl
            refine jm_callv (wr := [(a_pr, .inr (5, [.ref a_br])), (a_pl, .inr (4, [.ref a_plm, .ref a_pll, .int la, .int ld, .int lq, .int lz])), (a_plm, .inl (cI, 64, .inl lm)), (a_pll, .inl (cI, 1024, .inl lv))]) (va_runV (As := [.int 3, .int rn_2]) (rest := []) ⟨hx, hb, hml, hown, hts⟩ (c_X0_fail l D cI cB tt a_br a_st a_stb H_10.size rn_5 rf_5 rp_5 sc sb 3 rn_2 h) (cwV 2 hts (jm_gV mw_371 mw_334 mw_335 mw_63 mw_336) rfl rfl rfl (by decide +kernel) ⟨Nat.le_of_ble_eq_true rfl, Nat.le_of_ble_eq_true rfl⟩) ⟨jm_blind, va_recv hK hPc (ci := 0) (q0 := 0) rfl rfl, jm_pre hK hE hS hPc hDc hFc _⟩ rfl rfl hl.1 rfl (lv_room (Nat.le_of_ble_eq_true rfl)) dX5_readMode_108 ⟨Nat.zero_le _, Nat.zero_le _⟩) hS hP hD [1, 2, 3] [0, 4, 5, 6] rfl rfl (by decide) (by decide) hFc (fun u_14 H_14 locs hw hP hD hS => ?_)
            obtain ⟨rf_14, rp_14⟩ := u_14
            have h := pr2_out hw
            have hP : va_P D vwCl [(a_pr, .inr (5, [.ref a_br])), (a_br, .inr (0, [.ref a_st, .int rn_5, .int rf_14, .int rp_14])), (a_st, .inr (7, [.ref a_stb, .int sc])), (a_stb, .inl (cB, 8000, .inl sb)), (a_pl, .inr (4, [.ref a_plm, .ref a_pll, .int la, .int ld, .int lq, .int lz])), (a_plm, .inl (cI, 64, .inl lm)), (a_pll, .inl (cI, 1024, .inl lv))] H_14 := hP.sub [0, 4, 5, 6, 1, 2, 3] rfl
            have hD : va_D A [(a_pr, .inr (5, [.ref a_br])), (a_br, .inr (0, [.ref a_st, .int rn_5, .int rf_14, .int rp_14])), (a_st, .inr (7, [.ref a_stb, .int sc])), (a_stb, .inl (cB, 8000, .inl sb)), (a_pl, .inr (4, [.ref a_plm, .ref a_pll, .int la, .int ld, .int lq, .int lz])), (a_plm, .inl (cI, 64, .inl lm)), (a_pll, .inl (cI, 1024, .inl lv))] := hD.sub [0, 4, 5, 6, 1, 2, 3] (by decide) rfl
            refine lv_iconst (v := 0) hx hb dX5_readMode_111 (by decide) ?_
            exact hret 0 (rn_5, rf_14, rp_14, lm) _ _ _ _ dX5_readMode_112 (by decide) h hP hD hS
        refine lv_icmp_ge (tgt := 77) hx hb dX5_readMode_69 (by decide) (fun c_15 => ?_) (fun c_15 => ?_)
        · have h := h.1 c_15
          refine lv_iload hx hb dX5_readMode_77 (lv_at hl 0 rfl) ?_
          refine lv_iconst (v := 1) hx hb dX5_readMode_79 (by decide) ?_
          refine lv_iadd hx hb dX5_readMode_80 ?_
          exact hJ_7 (r_5 + 1) H_5 _ _ h hP hD hS (lv_sub hl [4, 5, 6, 3, 2, 1, 0] rfl)
        · have h := h.2 c_15
          refine lv_iload hx hb dX5_readMode_72 (lv_at hl 0 rfl) ?_
          refine lv_goto (tgt := 81) hx hb dX5_readMode_74 (by decide) ?_
          exact hJ_7 r_5 H_5 _ _ h hP hD hS (lv_sub hl [4, 5, 6, 3, 2, 1, 0] rfl)
      · have h := h.1 c_6
        refine lv_iconst (v := 0) hx hb dX5_readMode_64 (by decide) ?_
        exact hret 0 (rn_5, rf_5, rp_5, lm) _ _ _ _ dX5_readMode_65 (by decide) h hP hD hS
    · have h := h.1 c_4
      refine lv_aload_n hx hb dX5_readMode_30 rfl (lv_at hl 3 rfl) ?_
      refine va_getN (D := D) (ci := 4) (v := .ref a_plm) (C := RX4) (T := TX4) (N := 6) hx hb hts iX4 hown hK hP 4 rfl rfl 0 (by decide) (va_Nw.use rfl (hE.1 ("IntraMill$PlanReader", 73, "IntraMill$Plan", "modes", "[I") (List.mem_of_getElem? (i := 19) rfl))) (fun _ h9 => h9) rfl dX5_readMode_31 ?_
      refine lv_iload_n hx hb dX5_readMode_34 rfl (lv_at hl 4 rfl) ?_
      refine lv_iload_n hx hb dX5_readMode_35 rfl (lv_at hl 1 rfl) ?_
      obtain ⟨hi_16, h⟩ := h
      refine va_iast hx hb hK hP hD hS 5 0 rfl rfl hi_16 dX5_readMode_36 (fun H_17 locs hP hD hS => ?_)
      have hP : va_P D vwCl [(a_pr, .inr (5, [.ref a_br])), (a_br, .inr (0, [.ref a_st, .int rn_2, .int rf_2, .int rp_2])), (a_st, .inr (7, [.ref a_stb, .int sc])), (a_stb, .inl (cB, 8000, .inl sb)), (a_pl, .inr (4, [.ref a_plm, .ref a_pll, .int la, .int ld, .int lq, .int lz])), (a_plm, .inl (cI, 64, .inl (jup lm v2 r_1))), (a_pll, .inl (cI, 1024, .inl lv))] H_17 := hP
      have hD : va_D A [(a_pr, .inr (5, [.ref a_br])), (a_br, .inr (0, [.ref a_st, .int rn_2, .int rf_2, .int rp_2])), (a_st, .inr (7, [.ref a_stb, .int sc])), (a_stb, .inl (cB, 8000, .inl sb)), (a_pl, .inr (4, [.ref a_plm, .ref a_pll, .int la, .int ld, .int lq, .int lz])), (a_plm, .inl (cI, 64, .inl (jup lm v2 r_1))), (a_pll, .inl (cI, 1024, .inl lv))] := hD
      refine lv_iconst (v := 1) hx hb dX5_readMode_37 (by decide) ?_
      exact hret 1 (rn_2, rf_2, rp_2, jup lm v2 r_1) _ _ _ _ dX5_readMode_38 (by decide) h hP hD hS
  · have h := h.1 c_3
    refine lv_iconst (v := 0) hx hb dX5_readMode_22 (by decide) ?_
    exact hret 0 (rn_2, rf_2, rp_2, lm) _ _ _ _ dX5_readMode_23 (by decide) h hP hD hS
def wl_X5_readLevels_17 (v2 : Int32) (v3 : Int32) (sc : Int32) (sb : (Nat → Int32)) (K : Int32 → Int32 → Int32 → Int32 → (Nat → Int32) → Prop) (X : Int32 → Int32 → Int32 → Int32 → Int32 → (Nat → Int32) → Prop) : Nat → Int32 → Int32 → Int32 → Int32 → Int32 → (Nat → Int32) → Prop
  | 0, _, _, _, _, _, _ => False
  | n + 1, v4, v5, rn, rf, rp, lv => ((v3 ≤ v5 → X v4 v5 rn rf rp lv) ∧ (¬ v3 ≤ v5 → wp_X0_readNumber rn rf rp sc sb (15 - v4) 5 (fun (r_3 : Int32) (rn_3 : Int32) (rf_3 : Int32) (rp_3 : Int32) => ((r_3 = (-1) → K 0 rn_3 rf_3 rp_3 lv) ∧ (¬ r_3 = (-1) → wp_X0_readLevel rn_3 rf_3 rp_3 sc sb (fun (r_5 : Int32) (rn_5 : Int32) (rf_5 : Int32) (rp_5 : Int32) => ((r_5 = 0 → K 0 rn_5 rf_5 rp_5 lv) ∧ (¬ r_5 = 0 → ∀ x4_7 : Int32, x4_7 = v4 + r_3 → vp_in ((16 * v2) + x4_7) 1024 ∧ ∀ x4_10 : Int32, x4_10 = x4_7 + 1 → ∀ x5_11 : Int32, x5_11 = v5 + 1 → wl_X5_readLevels_17 v2 v3 sc sb K X n x4_10 x5_11 rn_5 rf_5 rp_5 (jup lv ((16 * v2) + x4_7) r_5)))))))))
def wp_X5_readLevels (rn : Int32) (rf : Int32) (rp : Int32) (sc : Int32) (sb : (Nat → Int32)) (lv : (Nat → Int32)) (v2 : Int32) (K : Int32 → Int32 → Int32 → Int32 → (Nat → Int32) → Prop) : Prop := wp_X0_readNumber rn rf rp sc sb 16 4 (fun (r_1 : Int32) (rn_1 : Int32) (rf_1 : Int32) (rp_1 : Int32) => ∃ k : Nat, wl_X5_readLevels_17 v2 r_1 sc sb K (fun (v4_12 : Int32) (v5_12 : Int32) (rn_12 : Int32) (rf_12 : Int32) (rp_12 : Int32) (lv_12 : (Nat → Int32)) => ((r_1 = (-1) → K 0 rn_12 rf_12 rp_12 lv_12) ∧ (¬ r_1 = (-1) → K 1 rn_12 rf_12 rp_12 lv_12))) k 0 0 rn_1 rf_1 rp_1 lv)
abbrev jw_X5_readLevels : List Cond := .code yX5_readLevels cX5_readLevels 8 (some .boolean) :: jmAll
abbrev rmX5_readLevels : Room := { frames := 4, cells := 0, slots := 0, locals := 93 }
set_option maxHeartbeats 4000000 in
set_option maxRecDepth 100000 in
theorem c_X5_readLevels (l : Launch) (D : va_G) (cI cB : ClassId) (tt : Nat × Nat × Nat) (a_pr a_br a_st a_stb a_pl a_plm a_pll : Nat) (sz : Nat) (rn : Int32) (rf : Int32) (rp : Int32) (sc : Int32) (sb : (Nat → Int32)) (la : Int32) (ld : Int32) (lq : Int32) (lz : Int32) (lm : (Nat → Int32)) (lv : (Nat → Int32)) (v2 : Int32) {K : Int32 → Int32 → Int32 → Int32 → (Nat → Int32) → Prop} (h : wp_X5_readLevels rn rf rp sc sb lv v2 K) : Met l yX5_readLevels jw_X5_readLevels rmX5_readLevels (va_Pc [.ref a_pr, .ref a_pl, .int v2] (jm_Pre D cI cB tt (wd_pr_br_st_stb_pl_plm_pll cI cB a_pr a_br a_st a_stb a_pl a_plm a_pll rn rf rp sc sb la ld lq lz lm lv) sz)) (va_Qi (fun (r : Int32) (u : Int32 × Int32 × Int32 × (Nat → Int32)) => pr4 (K r) u) (jm_Post D cI cB (wd_pr_br_st_stb_pl_plm_pll cI cB a_pr a_br a_st a_stb a_pl a_plm a_pll rn rf rp sc sb la ld lq lz lm lv) sz (fun (u : Int32 × Int32 × Int32 × (Nat → Int32)) => wd_pr_br_st_stb_pl_plm_pll cI cB a_pr a_br a_st a_stb a_pl a_plm a_pll u.1 u.2.1 u.2.2.1 sc sb la ld lq lz lm u.2.2.2)) (va_A (wd_pr_br_st_stb_pl_plm_pll cI cB a_pr a_br a_st a_stb a_pl a_plm a_pll rn rf rp sc sb la ld lq lz lm lv) sz)) 0 0 (va_A (wd_pr_br_st_stb_pl_plm_pll cI cB a_pr a_br a_st a_stb a_pl a_plm a_pll rn rf rp sc sb la ld lq lz lm lv) sz) := by
  refine jm_metI (by decide +kernel) rfl rfl (Nat.le_of_ble_eq_true rfl) ?_
  intro p e s m args below meth c A Q ls C0 hP hD hl hret
  obtain ⟨hx, hb, hml, hr, hown, hts, hlocks, hA, hK, hE⟩ := C0
  have hS : va_S A s.heap s.heap [] := va_S.rf
  have hl : lv_has ls 8 [(0, .ref a_pr), (1, .ref a_pl), (2, .int v2)] := hl
  unfold wp_X5_readLevels at h
  have hP : va_P D vwCl [(a_pr, .inr (5, [.ref a_br])), (a_br, .inr (0, [.ref a_st, .int rn, .int rf, .int rp])), (a_st, .inr (7, [.ref a_stb, .int sc])), (a_stb, .inl (cB, 8000, .inl sb)), (a_pl, .inr (4, [.ref a_plm, .ref a_pll, .int la, .int ld, .int lq, .int lz])), (a_plm, .inl (cI, 64, .inl lm)), (a_pll, .inl (cI, 1024, .inl lv))] s.heap := hP
  have hD : va_D A [(a_pr, .inr (5, [.ref a_br])), (a_br, .inr (0, [.ref a_st, .int rn, .int rf, .int rp])), (a_st, .inr (7, [.ref a_stb, .int sc])), (a_stb, .inl (cB, 8000, .inl sb)), (a_pl, .inr (4, [.ref a_plm, .ref a_pll, .int la, .int ld, .int lq, .int lz])), (a_plm, .inl (cI, 64, .inl lm)), (a_pll, .inl (cI, 1024, .inl lv))] := hD
  have iX4 : ∀ w ∈ wsX40, w ∈ jw_X5_readLevels := fun w h => List.mem_cons_of_mem _ (jm_iX4 w h)
  have iX5 : ∀ w ∈ wsX50, w ∈ jw_X5_readLevels := fun w h => List.mem_cons_of_mem _ (jm_iX5 w h)
  have lk14 := hts (.fieldLink RX5 14 "IntraMill$PlanReader" "bits" "LIntraMill$BitReader;") (List.mem_cons_of_mem _ mw_213)
  refine lv_aload_n hx hb dX5_readLevels_0 rfl (lv_at hl 0 rfl) ?_
  refine va_get (D := D) (ci := 5) (v := .ref a_br) (C := RX5) (T := TX5) (N := 1) hx hb hts iX5 hown hK hP 0 rfl rfl 0 (by decide) lk14 (fun _ h9 => h9) rfl dX5_readLevels_1 ?_
  refine lv_bipush (v := 16) hx hb dX5_readLevels_4 (by decide) ?_
  refine lv_iconst (v := 4) hx hb dX5_readLevels_6 (by decide) ?_
  have hPc := hP.sub (ws' := [(a_br, .inr (0, [.ref a_st, .int rn, .int rf, .int rp])), (a_st, .inr (7, [.ref a_stb, .int sc])), (a_stb, .inl (cB, 8000, .inl sb))]) [1, 2, 3] rfl
  have hDc := hD.sub (ws' := [(a_br, .inr (0, [.ref a_st, .int rn, .int rf, .int rp])), (a_st, .inr (7, [.ref a_stb, .int sc])), (a_stb, .inl (cB, 8000, .inl sb))]) [1, 2, 3] (by decide) rfl
  have hFc := va_free (wc := [(a_br, .inr (0, [.ref a_st, .int rn, .int rf, .int rp])), (a_st, .inr (7, [.ref a_stb, .int sc])), (a_stb, .inl (cB, 8000, .inl sb))]) hD hS hA [1, 2, 3] rfl
  refine jm_calli (wr := [(a_pr, .inr (5, [.ref a_br])), (a_pl, .inr (4, [.ref a_plm, .ref a_pll, .int la, .int ld, .int lq, .int lz])), (a_plm, .inl (cI, 64, .inl lm)), (a_pll, .inl (cI, 1024, .inl lv))]) (va_runV (As := [.int 16, .int 4]) (rest := []) ⟨hx, hb, hml, hown, hts⟩ (c_X0_readNumber l D cI cB tt a_br a_st a_stb s.heap.size rn rf rp sc sb 16 4 h) (cwV 2 hts (jm_gV mw_317 mw_318 mw_319 mw_63 mw_320) rfl rfl rfl (by decide +kernel) ⟨Nat.le_of_ble_eq_true rfl, Nat.le_of_ble_eq_true rfl⟩) ⟨jm_blind, va_recv hK hPc (ci := 0) (q0 := 0) rfl rfl, jm_pre hK hE hS hPc hDc hFc _⟩ rfl rfl hl.1 rfl (lv_room (Nat.le_of_ble_eq_true rfl)) dX5_readLevels_7 ⟨Nat.zero_le _, Nat.zero_le _⟩) hS hP hD [1, 2, 3] [0, 4, 5, 6] rfl rfl (by decide) (by decide) hFc (fun r_1 u_1 H_1 locs hw hP hD hS => ?_)
  obtain ⟨rn_1, rf_1, rp_1⟩ := u_1
  have h := pr3_out hw
  have hP : va_P D vwCl [(a_pr, .inr (5, [.ref a_br])), (a_br, .inr (0, [.ref a_st, .int rn_1, .int rf_1, .int rp_1])), (a_st, .inr (7, [.ref a_stb, .int sc])), (a_stb, .inl (cB, 8000, .inl sb)), (a_pl, .inr (4, [.ref a_plm, .ref a_pll, .int la, .int ld, .int lq, .int lz])), (a_plm, .inl (cI, 64, .inl lm)), (a_pll, .inl (cI, 1024, .inl lv))] H_1 := hP.sub [0, 4, 5, 6, 1, 2, 3] rfl
  have hD : va_D A [(a_pr, .inr (5, [.ref a_br])), (a_br, .inr (0, [.ref a_st, .int rn_1, .int rf_1, .int rp_1])), (a_st, .inr (7, [.ref a_stb, .int sc])), (a_stb, .inl (cB, 8000, .inl sb)), (a_pl, .inr (4, [.ref a_plm, .ref a_pll, .int la, .int ld, .int lq, .int lz])), (a_plm, .inl (cI, 64, .inl lm)), (a_pll, .inl (cI, 1024, .inl lv))] := hD.sub [0, 4, 5, 6, 1, 2, 3] (by decide) rfl
  refine lv_istore_n (lv' := [(3, .int r_1), (0, .ref a_pr), (1, .ref a_pl), (2, .int v2)]) hx hb dX5_readLevels_10 rfl hl (by decide) rfl (fun ls hl => ?_)
  refine lv_iconst (v := 0) hx hb dX5_readLevels_11 (by decide) ?_
  refine lv_istore (lv' := [(4, .int 0), (3, .int r_1), (0, .ref a_pr), (1, .ref a_pl), (2, .int v2)]) hx hb dX5_readLevels_12 hl (by decide) rfl (fun ls hl => ?_)
  refine lv_iconst (v := 0) hx hb dX5_readLevels_14 (by decide) ?_
  refine lv_istore (lv' := [(5, .int 0), (4, .int 0), (3, .int r_1), (0, .ref a_pr), (1, .ref a_pl), (2, .int v2)]) hx hb dX5_readLevels_15 hl (by decide) rfl (fun ls hl => ?_)
  obtain ⟨n_12, h⟩ := h
  have hL_12 : ∀ (v2 : Int32) (v3 : Int32) (X : Int32 → Int32 → Int32 → Int32 → Int32 → (Nat → Int32) → Prop), (∀ (v4 : Int32) (v5 : Int32) (rn : Int32) (rf : Int32) (rp : Int32) (lv : (Nat → Int32)), ∀ (H : Heap) (locs : List Loc) (ls : Array Slot), X v4 v5 rn rf rp lv → va_P D vwCl [(a_pr, .inr (5, [.ref a_br])), (a_br, .inr (0, [.ref a_st, .int rn, .int rf, .int rp])), (a_st, .inr (7, [.ref a_stb, .int sc])), (a_stb, .inl (cB, 8000, .inl sb)), (a_pl, .inr (4, [.ref a_plm, .ref a_pll, .int la, .int ld, .int lq, .int lz])), (a_plm, .inl (cI, 64, .inl lm)), (a_pll, .inl (cI, 1024, .inl lv))] H → va_D A [(a_pr, .inr (5, [.ref a_br])), (a_br, .inr (0, [.ref a_st, .int rn, .int rf, .int rp])), (a_st, .inr (7, [.ref a_stb, .int sc])), (a_stb, .inl (cB, 8000, .inl sb)), (a_pl, .inr (4, [.ref a_plm, .ref a_pll, .int la, .int ld, .int lq, .int lz])), (a_plm, .inl (cI, 64, .inl lm)), (a_pll, .inl (cI, 1024, .inl lv))] → va_S A s.heap H locs → lv_has ls 8 [(0, .ref a_pr), (1, .ref a_pl), (2, .int v2), (3, .int v3), (4, .int v4), (5, .int v5)] → W p l e rmX5_readLevels s m args below meth c H locs 0 0 Q (F0 m 92 ls [])) → ∀ (n : Nat) (v4 : Int32) (v5 : Int32) (rn : Int32) (rf : Int32) (rp : Int32) (lv : (Nat → Int32)), ∀ (H : Heap) (locs : List Loc) (ls : Array Slot), wl_X5_readLevels_17 v2 v3 sc sb K X n v4 v5 rn rf rp lv → va_P D vwCl [(a_pr, .inr (5, [.ref a_br])), (a_br, .inr (0, [.ref a_st, .int rn, .int rf, .int rp])), (a_st, .inr (7, [.ref a_stb, .int sc])), (a_stb, .inl (cB, 8000, .inl sb)), (a_pl, .inr (4, [.ref a_plm, .ref a_pll, .int la, .int ld, .int lq, .int lz])), (a_plm, .inl (cI, 64, .inl lm)), (a_pll, .inl (cI, 1024, .inl lv))] H → va_D A [(a_pr, .inr (5, [.ref a_br])), (a_br, .inr (0, [.ref a_st, .int rn, .int rf, .int rp])), (a_st, .inr (7, [.ref a_stb, .int sc])), (a_stb, .inl (cB, 8000, .inl sb)), (a_pl, .inr (4, [.ref a_plm, .ref a_pll, .int la, .int ld, .int lq, .int lz])), (a_plm, .inl (cI, 64, .inl lm)), (a_pll, .inl (cI, 1024, .inl lv))] → va_S A s.heap H locs → lv_has ls 8 [(0, .ref a_pr), (1, .ref a_pl), (2, .int v2), (3, .int v3), (4, .int v4), (5, .int v5)] → W p l e rmX5_readLevels s m args below meth c H locs 0 0 Q (F0 m 17 ls []) := by
    intro v2 v3 X hX n
    induction n with
    | zero => intro v4 v5 rn rf rp lv H locs ls h; rw [wl_X5_readLevels_17] at h; exact h.elim
    | succ n ih =>
      intro v4 v5 rn rf rp lv H locs ls h hP hD hS hl
      rw [wl_X5_readLevels_17] at h
      refine lv_iload hx hb dX5_readLevels_17 (lv_at hl 5 rfl) ?_
      refine lv_iload_n hx hb dX5_readLevels_19 rfl (lv_at hl 3 rfl) ?_
      refine lv_icmp_ge (tgt := 92) hx hb dX5_readLevels_20 (by decide) (fun c_2 => ?_) (fun c_2 => ?_)
      · have h := h.1 c_2
        exact hX v4 v5 rn rf rp lv H _ _ h hP hD hS (lv_sub hl [0, 1, 2, 3, 4, 5] rfl)
      · have h := h.2 c_2
        refine lv_aload_n hx hb dX5_readLevels_23 rfl (lv_at hl 0 rfl) ?_
        refine va_get (D := D) (ci := 5) (v := .ref a_br) (C := RX5) (T := TX5) (N := 1) hx hb hts iX5 hown hK hP 0 rfl rfl 0 (by decide) lk14 (fun _ h9 => h9) rfl dX5_readLevels_24 ?_
        refine lv_bipush (v := 15) hx hb dX5_readLevels_27 (by decide) ?_
        refine lv_iload hx hb dX5_readLevels_29 (lv_at hl 4 rfl) ?_
        refine lv_isub hx hb dX5_readLevels_31 ?_
        refine lv_iconst (v := 5) hx hb dX5_readLevels_32 (by decide) ?_
        have hPc := hP.sub (ws' := [(a_br, .inr (0, [.ref a_st, .int rn, .int rf, .int rp])), (a_st, .inr (7, [.ref a_stb, .int sc])), (a_stb, .inl (cB, 8000, .inl sb))]) [1, 2, 3] rfl
        have hDc := hD.sub (ws' := [(a_br, .inr (0, [.ref a_st, .int rn, .int rf, .int rp])), (a_st, .inr (7, [.ref a_stb, .int sc])), (a_stb, .inl (cB, 8000, .inl sb))]) [1, 2, 3] (by decide) rfl
        have hFc := va_free (wc := [(a_br, .inr (0, [.ref a_st, .int rn, .int rf, .int rp])), (a_st, .inr (7, [.ref a_stb, .int sc])), (a_stb, .inl (cB, 8000, .inl sb))]) hD hS hA [1, 2, 3] rfl
        refine jm_calli (wr := [(a_pr, .inr (5, [.ref a_br])), (a_pl, .inr (4, [.ref a_plm, .ref a_pll, .int la, .int ld, .int lq, .int lz])), (a_plm, .inl (cI, 64, .inl lm)), (a_pll, .inl (cI, 1024, .inl lv))]) (va_runV (As := [.int (15 - v4), .int 5]) (rest := []) ⟨hx, hb, hml, hown, hts⟩ (c_X0_readNumber l D cI cB tt a_br a_st a_stb H.size rn rf rp sc sb (15 - v4) 5 h) (cwV 2 hts (jm_gV mw_317 mw_318 mw_319 mw_63 mw_320) rfl rfl rfl (by decide +kernel) ⟨Nat.le_of_ble_eq_true rfl, Nat.le_of_ble_eq_true rfl⟩) ⟨jm_blind, va_recv hK hPc (ci := 0) (q0 := 0) rfl rfl, jm_pre hK hE hS hPc hDc hFc _⟩ rfl rfl hl.1 rfl (lv_room (Nat.le_of_ble_eq_true rfl)) dX5_readLevels_33 ⟨Nat.zero_le _, Nat.zero_le _⟩) hS hP hD [1, 2, 3] [0, 4, 5, 6] rfl rfl (by decide) (by decide) hFc (fun r_3 u_3 H_3 locs hw hP hD hS => ?_)
        obtain ⟨rn_3, rf_3, rp_3⟩ := u_3
        have h := pr3_out hw
        have hP : va_P D vwCl [(a_pr, .inr (5, [.ref a_br])), (a_br, .inr (0, [.ref a_st, .int rn_3, .int rf_3, .int rp_3])), (a_st, .inr (7, [.ref a_stb, .int sc])), (a_stb, .inl (cB, 8000, .inl sb)), (a_pl, .inr (4, [.ref a_plm, .ref a_pll, .int la, .int ld, .int lq, .int lz])), (a_plm, .inl (cI, 64, .inl lm)), (a_pll, .inl (cI, 1024, .inl lv))] H_3 := hP.sub [0, 4, 5, 6, 1, 2, 3] rfl
        have hD : va_D A [(a_pr, .inr (5, [.ref a_br])), (a_br, .inr (0, [.ref a_st, .int rn_3, .int rf_3, .int rp_3])), (a_st, .inr (7, [.ref a_stb, .int sc])), (a_stb, .inl (cB, 8000, .inl sb)), (a_pl, .inr (4, [.ref a_plm, .ref a_pll, .int la, .int ld, .int lq, .int lz])), (a_plm, .inl (cI, 64, .inl lm)), (a_pll, .inl (cI, 1024, .inl lv))] := hD.sub [0, 4, 5, 6, 1, 2, 3] (by decide) rfl
        refine lv_istore (lv' := [(6, .int r_3), (0, .ref a_pr), (1, .ref a_pl), (2, .int v2), (3, .int v3), (4, .int v4), (5, .int v5)]) hx hb dX5_readLevels_36 hl (by decide) rfl (fun ls hl => ?_)
        refine lv_iload hx hb dX5_readLevels_38 (lv_at hl 0 rfl) ?_
        refine lv_iconst (v := (-1)) hx hb dX5_readLevels_40 (by decide) ?_
        refine lv_icmp_ne (tgt := 46) hx hb dX5_readLevels_41 (by decide) (fun c_4 => ?_) (fun c_4 => ?_)
        · have h := h.2 c_4
          refine lv_aload_n hx hb dX5_readLevels_46 rfl (lv_at hl 1 rfl) ?_
          refine va_get (D := D) (ci := 5) (v := .ref a_br) (C := RX5) (T := TX5) (N := 1) hx hb hts iX5 hown hK hP 0 rfl rfl 0 (by decide) lk14 (fun _ h9 => h9) rfl dX5_readLevels_47 ?_
          have hPc := hP.sub (ws' := [(a_br, .inr (0, [.ref a_st, .int rn_3, .int rf_3, .int rp_3])), (a_st, .inr (7, [.ref a_stb, .int sc])), (a_stb, .inl (cB, 8000, .inl sb))]) [1, 2, 3] rfl
          have hDc := hD.sub (ws' := [(a_br, .inr (0, [.ref a_st, .int rn_3, .int rf_3, .int rp_3])), (a_st, .inr (7, [.ref a_stb, .int sc])), (a_stb, .inl (cB, 8000, .inl sb))]) [1, 2, 3] (by decide) rfl
          have hFc := va_free (wc := [(a_br, .inr (0, [.ref a_st, .int rn_3, .int rf_3, .int rp_3])), (a_st, .inr (7, [.ref a_stb, .int sc])), (a_stb, .inl (cB, 8000, .inl sb))]) hD hS hA [1, 2, 3] rfl
          refine jm_calli (wr := [(a_pr, .inr (5, [.ref a_br])), (a_pl, .inr (4, [.ref a_plm, .ref a_pll, .int la, .int ld, .int lq, .int lz])), (a_plm, .inl (cI, 64, .inl lm)), (a_pll, .inl (cI, 1024, .inl lv))]) (va_runV (As := []) (rest := []) ⟨hx, hb, hml, hown, hts⟩ (c_X0_readLevel l D cI cB tt a_br a_st a_stb H_3.size rn_3 rf_3 rp_3 sc sb h) (cwV 0 hts (jm_gV mw_376 mw_377 mw_378 mw_63 mw_379) rfl rfl rfl (by decide +kernel) ⟨Nat.le_of_ble_eq_true rfl, Nat.le_of_ble_eq_true rfl⟩) ⟨jm_blind, va_recv hK hPc (ci := 0) (q0 := 0) rfl rfl, jm_pre hK hE hS hPc hDc hFc _⟩ rfl rfl hl.1 rfl (lv_room (Nat.le_of_ble_eq_true rfl)) dX5_readLevels_50 ⟨Nat.zero_le _, Nat.zero_le _⟩) hS hP hD [1, 2, 3] [0, 4, 5, 6] rfl rfl (by decide) (by decide) hFc (fun r_5 u_5 H_5 locs hw hP hD hS => ?_)
          obtain ⟨rn_5, rf_5, rp_5⟩ := u_5
          have h := pr3_out hw
          have hP : va_P D vwCl [(a_pr, .inr (5, [.ref a_br])), (a_br, .inr (0, [.ref a_st, .int rn_5, .int rf_5, .int rp_5])), (a_st, .inr (7, [.ref a_stb, .int sc])), (a_stb, .inl (cB, 8000, .inl sb)), (a_pl, .inr (4, [.ref a_plm, .ref a_pll, .int la, .int ld, .int lq, .int lz])), (a_plm, .inl (cI, 64, .inl lm)), (a_pll, .inl (cI, 1024, .inl lv))] H_5 := hP.sub [0, 4, 5, 6, 1, 2, 3] rfl
          have hD : va_D A [(a_pr, .inr (5, [.ref a_br])), (a_br, .inr (0, [.ref a_st, .int rn_5, .int rf_5, .int rp_5])), (a_st, .inr (7, [.ref a_stb, .int sc])), (a_stb, .inl (cB, 8000, .inl sb)), (a_pl, .inr (4, [.ref a_plm, .ref a_pll, .int la, .int ld, .int lq, .int lz])), (a_plm, .inl (cI, 64, .inl lm)), (a_pll, .inl (cI, 1024, .inl lv))] := hD.sub [0, 4, 5, 6, 1, 2, 3] (by decide) rfl
          refine lv_istore (lv' := [(7, .int r_5), (6, .int r_3), (0, .ref a_pr), (1, .ref a_pl), (2, .int v2), (3, .int v3), (4, .int v4), (5, .int v5)]) hx hb dX5_readLevels_53 hl (by decide) rfl (fun ls hl => ?_)
          refine lv_iload hx hb dX5_readLevels_55 (lv_at hl 0 rfl) ?_
          refine lv_if_ne (tgt := 62) hx hb dX5_readLevels_57 (by decide) (fun c_6 => ?_) (fun c_6 => ?_)
          · have h := h.2 c_6
            refine lv_iload hx hb dX5_readLevels_62 (lv_at hl 6 rfl) ?_
            refine lv_iload hx hb dX5_readLevels_64 (lv_at hl 1 rfl) ?_
            refine lv_iadd hx hb dX5_readLevels_66 ?_
            refine lv_topi (fun x4_7 ex4_7 => ?_)
            have h := h x4_7 ex4_7
            refine lv_istore (lv' := [(4, .int x4_7), (7, .int r_5), (6, .int r_3), (0, .ref a_pr), (1, .ref a_pl), (2, .int v2), (3, .int v3), (5, .int v5)]) hx hb dX5_readLevels_67 hl (by decide) rfl (fun ls hl => ?_)
            refine lv_aload_n hx hb dX5_readLevels_69 rfl (lv_at hl 4 rfl) ?_
            refine va_getN (D := D) (ci := 4) (v := .ref a_pll) (C := RX4) (T := TX4) (N := 6) hx hb hts iX4 hown hK hP 4 rfl rfl 1 (by decide) (va_Nw.use rfl (hE.1 ("IntraMill$PlanReader", 97, "IntraMill$Plan", "levels", "[I") (List.mem_of_getElem? (i := 21) rfl))) (fun _ h9 => h9) rfl dX5_readLevels_70 ?_
            refine lv_bipush (v := 16) hx hb dX5_readLevels_73 (by decide) ?_
            refine lv_iload_n hx hb dX5_readLevels_75 rfl (lv_at hl 5 rfl) ?_
            refine lv_imul hx hb dX5_readLevels_76 ?_
            refine lv_iload hx hb dX5_readLevels_77 (lv_at hl 0 rfl) ?_
            refine lv_iadd hx hb dX5_readLevels_79 ?_
            refine lv_iload hx hb dX5_readLevels_80 (lv_at hl 1 rfl) ?_
            obtain ⟨hi_8, h⟩ := h
            refine va_iast hx hb hK hP hD hS 6 0 rfl rfl hi_8 dX5_readLevels_82 (fun H_9 locs hP hD hS => ?_)
            have hP : va_P D vwCl [(a_pr, .inr (5, [.ref a_br])), (a_br, .inr (0, [.ref a_st, .int rn_5, .int rf_5, .int rp_5])), (a_st, .inr (7, [.ref a_stb, .int sc])), (a_stb, .inl (cB, 8000, .inl sb)), (a_pl, .inr (4, [.ref a_plm, .ref a_pll, .int la, .int ld, .int lq, .int lz])), (a_plm, .inl (cI, 64, .inl lm)), (a_pll, .inl (cI, 1024, .inl (jup lv ((16 * v2) + x4_7) r_5)))] H_9 := hP
            have hD : va_D A [(a_pr, .inr (5, [.ref a_br])), (a_br, .inr (0, [.ref a_st, .int rn_5, .int rf_5, .int rp_5])), (a_st, .inr (7, [.ref a_stb, .int sc])), (a_stb, .inl (cB, 8000, .inl sb)), (a_pl, .inr (4, [.ref a_plm, .ref a_pll, .int la, .int ld, .int lq, .int lz])), (a_plm, .inl (cI, 64, .inl lm)), (a_pll, .inl (cI, 1024, .inl (jup lv ((16 * v2) + x4_7) r_5)))] := hD
            obtain ⟨x4_10, ex4_10⟩ : ∃ y : Int32, y = x4_7 + 1 := ⟨_, rfl⟩
            have h := h x4_10 ex4_10
            refine lv_iinc (v := x4_10) (lv' := [(4, .int x4_10), (7, .int r_5), (6, .int r_3), (0, .ref a_pr), (1, .ref a_pl), (2, .int v2), (3, .int v3), (5, .int v5)]) hx hb dX5_readLevels_83 hl (k := 0) rfl (by rw [ex4_10]; rfl) (by decide) rfl (fun ls hl => ?_)
            obtain ⟨x5_11, ex5_11⟩ : ∃ y : Int32, y = v5 + 1 := ⟨_, rfl⟩
            have h := h x5_11 ex5_11
            refine lv_iinc (v := x5_11) (lv' := [(5, .int x5_11), (4, .int x4_10), (7, .int r_5), (6, .int r_3), (0, .ref a_pr), (1, .ref a_pl), (2, .int v2), (3, .int v3)]) hx hb dX5_readLevels_86 hl (k := 7) rfl (by rw [ex5_11]; rfl) (by decide) rfl (fun ls hl => ?_)
            refine lv_goto (tgt := 17) hx hb dX5_readLevels_89 (by decide) ?_
            exact ih x4_10 x5_11 rn_5 rf_5 rp_5 (jup lv ((16 * v2) + x4_7) r_5) H_9 _ _ h hP hD hS (lv_sub hl [4, 5, 6, 7, 1, 0] rfl)
          · have h := h.1 c_6
            refine lv_iconst (v := 0) hx hb dX5_readLevels_60 (by decide) ?_
            exact hret 0 (rn_5, rf_5, rp_5, lv) _ _ _ _ dX5_readLevels_61 (by decide) h hP hD hS
        · have h := h.1 c_4
          refine lv_iconst (v := 0) hx hb dX5_readLevels_44 (by decide) ?_
          exact hret 0 (rn_3, rf_3, rp_3, lv) _ _ _ _ dX5_readLevels_45 (by decide) h hP hD hS
  refine hL_12 v2 r_1 _ ?_ n_12 0 0 rn_1 rf_1 rp_1 lv H_1 _ _ h hP hD hS (lv_sub hl [3, 4, 5, 2, 1, 0] rfl)
  intro v4_12 v5_12 rn_12 rf_12 rp_12 lv_12 H locs ls h hP hD hS hl
  refine lv_iload_n hx hb dX5_readLevels_92 rfl (lv_at hl 3 rfl) ?_
  refine lv_iconst (v := (-1)) hx hb dX5_readLevels_93 (by decide) ?_
  refine lv_icmp_eq (tgt := 101) hx hb dX5_readLevels_94 (by decide) (fun c_13 => ?_) (fun c_13 => ?_)
  · have h := h.1 c_13
    refine lv_iconst (v := 0) hx hb dX5_readLevels_101 (by decide) ?_
    exact hret 0 (rn_12, rf_12, rp_12, lv_12) _ _ _ _ dX5_readLevels_102 (by decide) h hP hD hS
  · have h := h.2 c_13
    refine lv_iconst (v := 1) hx hb dX5_readLevels_97 (by decide) ?_
    refine lv_goto (tgt := 102) hx hb dX5_readLevels_98 (by decide) ?_
    exact hret 1 (rn_12, rf_12, rp_12, lv_12) _ _ _ _ dX5_readLevels_102 (by decide) h hP hD hS
def wl_X5_read_19 (sc : Int32) (sb : (Nat → Int32)) (la : Int32) (ld : Int32) (lq : Int32) (lz : Int32) (K : Int32 → Int32 → Int32 → Int32 → Int32 → Int32 → Int32 → Int32 → (Nat → Int32) → (Nat → Int32) → Prop) (X : Int32 → Int32 → Int32 → Int32 → (Nat → Int32) → (Nat → Int32) → Prop) : Nat → Int32 → Int32 → Int32 → Int32 → (Nat → Int32) → (Nat → Int32) → Prop
  | 0, _, _, _, _, _, _ => False
  | n + 1, v2, rn, rf, rp, lm, lv => wp_X4_blocks la ld (fun (r_4 : Int32) => ((r_4 ≤ v2 → X v2 rn rf rp lm lv) ∧ (¬ r_4 ≤ v2 → wp_X5_readMode rn rf rp sc sb la lm v2 (fun (r_6 : Int32) (rn_6 : Int32) (rf_6 : Int32) (rp_6 : Int32) (lm_6 : (Nat → Int32)) => ((r_6 = 0 → K 0 rn_6 rf_6 rp_6 la ld lq lz lm_6 lv) ∧ (¬ r_6 = 0 → wp_X5_readLevels rn_6 rf_6 rp_6 sc sb lv v2 (fun (r_8 : Int32) (rn_8 : Int32) (rf_8 : Int32) (rp_8 : Int32) (lv_8 : (Nat → Int32)) => ((r_8 = 0 → K 0 rn_8 rf_8 rp_8 la ld lq lz lm_6 lv_8) ∧ (¬ r_8 = 0 → ∀ x2_10 : Int32, x2_10 = v2 + 1 → wl_X5_read_19 sc sb la ld lq lz K X n x2_10 rn_8 rf_8 rp_8 lm_6 lv_8)))))))))
def wp_X5_read (rn : Int32) (rf : Int32) (rp : Int32) (sc : Int32) (sb : (Nat → Int32)) (la : Int32) (ld : Int32) (lq : Int32) (lz : Int32) (lm : (Nat → Int32)) (lv : (Nat → Int32)) (K : Int32 → Int32 → Int32 → Int32 → Int32 → Int32 → Int32 → Int32 → (Nat → Int32) → (Nat → Int32) → Prop) : Prop := wp_X0_restart rn rf rp (fun (rn_1 : Int32) (rf_1 : Int32) (rp_1 : Int32) => wp_X5_readHead rn_1 rf_1 rp_1 sc sb la ld lq lz lm lv (fun (r_2 : Int32) (rn_2 : Int32) (rf_2 : Int32) (rp_2 : Int32) (la_2 : Int32) (ld_2 : Int32) (lq_2 : Int32) (lz_2 : Int32) (lm_2 : (Nat → Int32)) (lv_2 : (Nat → Int32)) => ((r_2 = 0 → K 0 rn_2 rf_2 rp_2 la_2 ld_2 lq_2 lz_2 lm_2 lv_2) ∧ (¬ r_2 = 0 → ∃ k : Nat, wl_X5_read_19 sc sb la_2 ld_2 lq_2 lz_2 K (fun (v2_11 : Int32) (rn_11 : Int32) (rf_11 : Int32) (rp_11 : Int32) (lm_11 : (Nat → Int32)) (lv_11 : (Nat → Int32)) => wp_X0_endsClean rn_11 rf_11 rp_11 sc sb (fun (r_12 : Int32) (rf_12 : Int32) (rp_12 : Int32) => jz r_12 ∧ K r_12 rn_11 rf_12 rp_12 la_2 ld_2 lq_2 lz_2 lm_11 lv_11)) k 0 rn_2 rf_2 rp_2 lm_2 lv_2))))
abbrev jw_X5_read : List Cond := .code yX5_read cX5_read 3 (some .boolean) :: jmAll
abbrev rmX5_read : Room := { frames := 5, cells := 0, slots := 0, locals := 120 }
set_option maxHeartbeats 4000000 in
set_option maxRecDepth 100000 in
theorem c_X5_read (l : Launch) (D : va_G) (cI cB : ClassId) (tt : Nat × Nat × Nat) (a_pr a_br a_st a_stb a_pl a_plm a_pll : Nat) (sz : Nat) (rn : Int32) (rf : Int32) (rp : Int32) (sc : Int32) (sb : (Nat → Int32)) (la : Int32) (ld : Int32) (lq : Int32) (lz : Int32) (lm : (Nat → Int32)) (lv : (Nat → Int32)) {K : Int32 → Int32 → Int32 → Int32 → Int32 → Int32 → Int32 → Int32 → (Nat → Int32) → (Nat → Int32) → Prop} (h : wp_X5_read rn rf rp sc sb la ld lq lz lm lv K) : Met l yX5_read jw_X5_read rmX5_read (va_Pc [.ref a_pr, .ref a_pl] (jm_Pre D cI cB tt (wd_pr_br_st_stb_pl_plm_pll cI cB a_pr a_br a_st a_stb a_pl a_plm a_pll rn rf rp sc sb la ld lq lz lm lv) sz)) (va_Qi (fun (r : Int32) (u : Int32 × Int32 × Int32 × Int32 × Int32 × Int32 × Int32 × (Nat → Int32) × (Nat → Int32)) => pr9 (K r) u) (jm_Post D cI cB (wd_pr_br_st_stb_pl_plm_pll cI cB a_pr a_br a_st a_stb a_pl a_plm a_pll rn rf rp sc sb la ld lq lz lm lv) sz (fun (u : Int32 × Int32 × Int32 × Int32 × Int32 × Int32 × Int32 × (Nat → Int32) × (Nat → Int32)) => wd_pr_br_st_stb_pl_plm_pll cI cB a_pr a_br a_st a_stb a_pl a_plm a_pll u.1 u.2.1 u.2.2.1 sc sb u.2.2.2.1 u.2.2.2.2.1 u.2.2.2.2.2.1 u.2.2.2.2.2.2.1 u.2.2.2.2.2.2.2.1 u.2.2.2.2.2.2.2.2)) (va_A (wd_pr_br_st_stb_pl_plm_pll cI cB a_pr a_br a_st a_stb a_pl a_plm a_pll rn rf rp sc sb la ld lq lz lm lv) sz)) 0 0 (va_A (wd_pr_br_st_stb_pl_plm_pll cI cB a_pr a_br a_st a_stb a_pl a_plm a_pll rn rf rp sc sb la ld lq lz lm lv) sz) := by
  refine jm_metI (by decide +kernel) rfl rfl (Nat.le_of_ble_eq_true rfl) ?_
  intro p e s m args below meth c A Q ls C0 hP hD hl hret
  obtain ⟨hx, hb, hml, hr, hown, hts, hlocks, hA, hK, hE⟩ := C0
  have hS : va_S A s.heap s.heap [] := va_S.rf
  have hl : lv_has ls 3 [(0, .ref a_pr), (1, .ref a_pl)] := hl
  unfold wp_X5_read at h
  have hP : va_P D vwCl [(a_pr, .inr (5, [.ref a_br])), (a_br, .inr (0, [.ref a_st, .int rn, .int rf, .int rp])), (a_st, .inr (7, [.ref a_stb, .int sc])), (a_stb, .inl (cB, 8000, .inl sb)), (a_pl, .inr (4, [.ref a_plm, .ref a_pll, .int la, .int ld, .int lq, .int lz])), (a_plm, .inl (cI, 64, .inl lm)), (a_pll, .inl (cI, 1024, .inl lv))] s.heap := hP
  have hD : va_D A [(a_pr, .inr (5, [.ref a_br])), (a_br, .inr (0, [.ref a_st, .int rn, .int rf, .int rp])), (a_st, .inr (7, [.ref a_stb, .int sc])), (a_stb, .inl (cB, 8000, .inl sb)), (a_pl, .inr (4, [.ref a_plm, .ref a_pll, .int la, .int ld, .int lq, .int lz])), (a_plm, .inl (cI, 64, .inl lm)), (a_pll, .inl (cI, 1024, .inl lv))] := hD
  have iX5 : ∀ w ∈ wsX50, w ∈ jw_X5_read := fun w h => List.mem_cons_of_mem _ (jm_iX5 w h)
  have lk14 := hts (.fieldLink RX5 14 "IntraMill$PlanReader" "bits" "LIntraMill$BitReader;") (List.mem_cons_of_mem _ mw_213)
  refine lv_aload_n hx hb dX5_read_0 rfl (lv_at hl 0 rfl) ?_
  refine va_get (D := D) (ci := 5) (v := .ref a_br) (C := RX5) (T := TX5) (N := 1) hx hb hts iX5 hown hK hP 0 rfl rfl 0 (by decide) lk14 (fun _ h9 => h9) rfl dX5_read_1 ?_
  have hPc := hP.sub (ws' := [(a_br, .inr (0, [.ref a_st, .int rn, .int rf, .int rp])), (a_st, .inr (7, [.ref a_stb, .int sc])), (a_stb, .inl (cB, 8000, .inl sb))]) [1, 2, 3] rfl
  have hDc := hD.sub (ws' := [(a_br, .inr (0, [.ref a_st, .int rn, .int rf, .int rp])), (a_st, .inr (7, [.ref a_stb, .int sc])), (a_stb, .inl (cB, 8000, .inl sb))]) [1, 2, 3] (by decide) rfl
  have hFc := va_free (wc := [(a_br, .inr (0, [.ref a_st, .int rn, .int rf, .int rp])), (a_st, .inr (7, [.ref a_stb, .int sc])), (a_stb, .inl (cB, 8000, .inl sb))]) hD hS hA [1, 2, 3] rfl
  refine jm_callv (wr := [(a_pr, .inr (5, [.ref a_br])), (a_pl, .inr (4, [.ref a_plm, .ref a_pll, .int la, .int ld, .int lq, .int lz])), (a_plm, .inl (cI, 64, .inl lm)), (a_pll, .inl (cI, 1024, .inl lv))]) (va_runV (As := []) (rest := []) ⟨hx, hb, hml, hown, hts⟩ (c_X0_restart l D cI cB tt a_br a_st a_stb s.heap.size rn rf rp sc sb h) (cwV 0 hts (jm_gV mw_309 mw_310 mw_311 mw_63 mw_312) rfl rfl rfl (by decide +kernel) ⟨Nat.le_of_ble_eq_true rfl, Nat.le_of_ble_eq_true rfl⟩) ⟨jm_blind, va_recv hK hPc (ci := 0) (q0 := 0) rfl rfl, jm_pre hK hE hS hPc hDc hFc _⟩ rfl rfl hl.1 rfl (lv_room (Nat.le_of_ble_eq_true rfl)) dX5_read_4 ⟨Nat.zero_le _, Nat.zero_le _⟩) hS hP hD [1, 2, 3] [0, 4, 5, 6] rfl rfl (by decide) (by decide) hFc (fun u_1 H_1 locs hw hP hD hS => ?_)
  obtain ⟨rn_1, rf_1, rp_1⟩ := u_1
  have h := pr3_out hw
  have hP : va_P D vwCl [(a_pr, .inr (5, [.ref a_br])), (a_br, .inr (0, [.ref a_st, .int rn_1, .int rf_1, .int rp_1])), (a_st, .inr (7, [.ref a_stb, .int sc])), (a_stb, .inl (cB, 8000, .inl sb)), (a_pl, .inr (4, [.ref a_plm, .ref a_pll, .int la, .int ld, .int lq, .int lz])), (a_plm, .inl (cI, 64, .inl lm)), (a_pll, .inl (cI, 1024, .inl lv))] H_1 := hP.sub [0, 4, 5, 6, 1, 2, 3] rfl
  have hD : va_D A [(a_pr, .inr (5, [.ref a_br])), (a_br, .inr (0, [.ref a_st, .int rn_1, .int rf_1, .int rp_1])), (a_st, .inr (7, [.ref a_stb, .int sc])), (a_stb, .inl (cB, 8000, .inl sb)), (a_pl, .inr (4, [.ref a_plm, .ref a_pll, .int la, .int ld, .int lq, .int lz])), (a_plm, .inl (cI, 64, .inl lm)), (a_pll, .inl (cI, 1024, .inl lv))] := hD.sub [0, 4, 5, 6, 1, 2, 3] (by decide) rfl
  refine lv_aload_n hx hb dX5_read_7 rfl (lv_at hl 0 rfl) ?_
  refine lv_aload_n hx hb dX5_read_8 rfl (lv_at hl 1 rfl) ?_
  have hPc := hP.sub (ws' := [(a_pr, .inr (5, [.ref a_br])), (a_br, .inr (0, [.ref a_st, .int rn_1, .int rf_1, .int rp_1])), (a_st, .inr (7, [.ref a_stb, .int sc])), (a_stb, .inl (cB, 8000, .inl sb)), (a_pl, .inr (4, [.ref a_plm, .ref a_pll, .int la, .int ld, .int lq, .int lz])), (a_plm, .inl (cI, 64, .inl lm)), (a_pll, .inl (cI, 1024, .inl lv))]) [0, 1, 2, 3, 4, 5, 6] rfl
  have hDc := hD.sub (ws' := [(a_pr, .inr (5, [.ref a_br])), (a_br, .inr (0, [.ref a_st, .int rn_1, .int rf_1, .int rp_1])), (a_st, .inr (7, [.ref a_stb, .int sc])), (a_stb, .inl (cB, 8000, .inl sb)), (a_pl, .inr (4, [.ref a_plm, .ref a_pll, .int la, .int ld, .int lq, .int lz])), (a_plm, .inl (cI, 64, .inl lm)), (a_pll, .inl (cI, 1024, .inl lv))]) [0, 1, 2, 3, 4, 5, 6] (by decide) rfl
  have hFc := va_free (wc := [(a_pr, .inr (5, [.ref a_br])), (a_br, .inr (0, [.ref a_st, .int rn_1, .int rf_1, .int rp_1])), (a_st, .inr (7, [.ref a_stb, .int sc])), (a_stb, .inl (cB, 8000, .inl sb)), (a_pl, .inr (4, [.ref a_plm, .ref a_pll, .int la, .int ld, .int lq, .int lz])), (a_plm, .inl (cI, 64, .inl lm)), (a_pll, .inl (cI, 1024, .inl lv))]) hD hS hA [0, 1, 2, 3, 4, 5, 6] rfl
  refine jm_calli (wr := []) (va_runV (As := [.ref a_pl]) (rest := []) ⟨hx, hb, hml, hown, hts⟩ (c_X5_readHead l D cI cB tt a_pr a_br a_st a_stb a_pl a_plm a_pll H_1.size rn_1 rf_1 rp_1 sc sb la ld lq lz lm lv h) (cwV 1 hts (jm_gV mw_313 mw_315 mw_0 mw_62 mw_316) rfl rfl rfl (by decide +kernel) ⟨Nat.le_of_ble_eq_true rfl, Nat.le_of_ble_eq_true rfl⟩) ⟨jm_blind, va_recv hK hPc (ci := 5) (q0 := 0) rfl rfl, jm_pre hK hE hS hPc hDc hFc _⟩ rfl rfl hl.1 rfl (lv_room (Nat.le_of_ble_eq_true rfl)) dX5_read_9 ⟨Nat.zero_le _, Nat.zero_le _⟩) hS hP hD [0, 1, 2, 3, 4, 5, 6] [] rfl rfl (by decide) (by decide) hFc (fun r_2 u_2 H_2 locs hw hP hD hS => ?_)
  obtain ⟨rn_2, rf_2, rp_2, la_2, ld_2, lq_2, lz_2, lm_2, lv_2⟩ := u_2
  have h := pr9_out hw
  have hP : va_P D vwCl [(a_pr, .inr (5, [.ref a_br])), (a_br, .inr (0, [.ref a_st, .int rn_2, .int rf_2, .int rp_2])), (a_st, .inr (7, [.ref a_stb, .int sc])), (a_stb, .inl (cB, 8000, .inl sb)), (a_pl, .inr (4, [.ref a_plm, .ref a_pll, .int la_2, .int ld_2, .int lq_2, .int lz_2])), (a_plm, .inl (cI, 64, .inl lm_2)), (a_pll, .inl (cI, 1024, .inl lv_2))] H_2 := hP.sub [0, 1, 2, 3, 4, 5, 6] rfl
  have hD : va_D A [(a_pr, .inr (5, [.ref a_br])), (a_br, .inr (0, [.ref a_st, .int rn_2, .int rf_2, .int rp_2])), (a_st, .inr (7, [.ref a_stb, .int sc])), (a_stb, .inl (cB, 8000, .inl sb)), (a_pl, .inr (4, [.ref a_plm, .ref a_pll, .int la_2, .int ld_2, .int lq_2, .int lz_2])), (a_plm, .inl (cI, 64, .inl lm_2)), (a_pll, .inl (cI, 1024, .inl lv_2))] := hD.sub [0, 1, 2, 3, 4, 5, 6] (by decide) rfl
  refine lv_if_ne (tgt := 17) hx hb dX5_read_12 (by decide) (fun c_3 => ?_) (fun c_3 => ?_)
  · have h := h.2 c_3
    refine lv_iconst (v := 0) hx hb dX5_read_17 (by decide) ?_
    refine lv_istore_n (lv' := [(2, .int 0), (0, .ref a_pr), (1, .ref a_pl)]) hx hb dX5_read_18 rfl hl (by decide) rfl (fun ls hl => ?_)
    obtain ⟨n_11, h⟩ := h
    have hL_11 : ∀ (la : Int32) (ld : Int32) (lq : Int32) (lz : Int32) (X : Int32 → Int32 → Int32 → Int32 → (Nat → Int32) → (Nat → Int32) → Prop), (∀ (v2 : Int32) (rn : Int32) (rf : Int32) (rp : Int32) (lm : (Nat → Int32)) (lv : (Nat → Int32)), ∀ (H : Heap) (locs : List Loc) (ls : Array Slot), X v2 rn rf rp lm lv → va_P D vwCl [(a_pr, .inr (5, [.ref a_br])), (a_br, .inr (0, [.ref a_st, .int rn, .int rf, .int rp])), (a_st, .inr (7, [.ref a_stb, .int sc])), (a_stb, .inl (cB, 8000, .inl sb)), (a_pl, .inr (4, [.ref a_plm, .ref a_pll, .int la, .int ld, .int lq, .int lz])), (a_plm, .inl (cI, 64, .inl lm)), (a_pll, .inl (cI, 1024, .inl lv))] H → va_D A [(a_pr, .inr (5, [.ref a_br])), (a_br, .inr (0, [.ref a_st, .int rn, .int rf, .int rp])), (a_st, .inr (7, [.ref a_stb, .int sc])), (a_stb, .inl (cB, 8000, .inl sb)), (a_pl, .inr (4, [.ref a_plm, .ref a_pll, .int la, .int ld, .int lq, .int lz])), (a_plm, .inl (cI, 64, .inl lm)), (a_pll, .inl (cI, 1024, .inl lv))] → va_S A s.heap H locs → lv_has ls 3 [(0, .ref a_pr), (1, .ref a_pl), (2, .int v2)] → W p l e rmX5_read s m args below meth c H locs 0 0 Q (F0 m 53 ls [])) → ∀ (n : Nat) (v2 : Int32) (rn : Int32) (rf : Int32) (rp : Int32) (lm : (Nat → Int32)) (lv : (Nat → Int32)), ∀ (H : Heap) (locs : List Loc) (ls : Array Slot), wl_X5_read_19 sc sb la ld lq lz K X n v2 rn rf rp lm lv → va_P D vwCl [(a_pr, .inr (5, [.ref a_br])), (a_br, .inr (0, [.ref a_st, .int rn, .int rf, .int rp])), (a_st, .inr (7, [.ref a_stb, .int sc])), (a_stb, .inl (cB, 8000, .inl sb)), (a_pl, .inr (4, [.ref a_plm, .ref a_pll, .int la, .int ld, .int lq, .int lz])), (a_plm, .inl (cI, 64, .inl lm)), (a_pll, .inl (cI, 1024, .inl lv))] H → va_D A [(a_pr, .inr (5, [.ref a_br])), (a_br, .inr (0, [.ref a_st, .int rn, .int rf, .int rp])), (a_st, .inr (7, [.ref a_stb, .int sc])), (a_stb, .inl (cB, 8000, .inl sb)), (a_pl, .inr (4, [.ref a_plm, .ref a_pll, .int la, .int ld, .int lq, .int lz])), (a_plm, .inl (cI, 64, .inl lm)), (a_pll, .inl (cI, 1024, .inl lv))] → va_S A s.heap H locs → lv_has ls 3 [(0, .ref a_pr), (1, .ref a_pl), (2, .int v2)] → W p l e rmX5_read s m args below meth c H locs 0 0 Q (F0 m 19 ls []) := by
      intro la ld lq lz X hX n
      induction n with
      | zero => intro v2 rn rf rp lm lv H locs ls h; rw [wl_X5_read_19] at h; exact h.elim
      | succ n ih =>
        intro v2 rn rf rp lm lv H locs ls h hP hD hS hl
        rw [wl_X5_read_19] at h
        refine lv_iload_n hx hb dX5_read_19 rfl (lv_at hl 2 rfl) ?_
        refine lv_aload_n hx hb dX5_read_20 rfl (lv_at hl 1 rfl) ?_
        have hPc := hP.sub (ws' := [(a_pl, .inr (4, [.ref a_plm, .ref a_pll, .int la, .int ld, .int lq, .int lz])), (a_plm, .inl (cI, 64, .inl lm)), (a_pll, .inl (cI, 1024, .inl lv))]) [4, 5, 6] rfl
        have hDc := hD.sub (ws' := [(a_pl, .inr (4, [.ref a_plm, .ref a_pll, .int la, .int ld, .int lq, .int lz])), (a_plm, .inl (cI, 64, .inl lm)), (a_pll, .inl (cI, 1024, .inl lv))]) [4, 5, 6] (by decide) rfl
        have hFc := va_free (wc := [(a_pl, .inr (4, [.ref a_plm, .ref a_pll, .int la, .int ld, .int lq, .int lz])), (a_plm, .inl (cI, 64, .inl lm)), (a_pll, .inl (cI, 1024, .inl lv))]) hD hS hA [4, 5, 6] rfl
        refine jm_calli (wr := [(a_pr, .inr (5, [.ref a_br])), (a_br, .inr (0, [.ref a_st, .int rn, .int rf, .int rp])), (a_st, .inr (7, [.ref a_stb, .int sc])), (a_stb, .inl (cB, 8000, .inl sb))]) (va_runV (As := []) (rest := [.int v2]) ⟨hx, hb, hml, hown, hts⟩ (c_X4_blocks l D cI cB tt a_pl a_plm a_pll H.size la ld lq lz lm lv h) (cwV 0 hts (jm_gV mw_343 mw_344 mw_345 mw_64 mw_346) rfl rfl rfl (by decide +kernel) ⟨Nat.le_of_ble_eq_true rfl, Nat.le_of_ble_eq_true rfl⟩) ⟨jm_blind, va_recv hK hPc (ci := 4) (q0 := 0) rfl rfl, jm_pre hK hE hS hPc hDc hFc _⟩ rfl rfl hl.1 rfl (lv_room (Nat.le_of_ble_eq_true rfl)) dX5_read_21 ⟨Nat.zero_le _, Nat.zero_le _⟩) hS hP hD [4, 5, 6] [0, 1, 2, 3] rfl rfl (by decide) (by decide) hFc (fun r_4 u_4 H_4 locs hw hP hD hS => ?_)
        have h := hw
        have hP : va_P D vwCl [(a_pr, .inr (5, [.ref a_br])), (a_br, .inr (0, [.ref a_st, .int rn, .int rf, .int rp])), (a_st, .inr (7, [.ref a_stb, .int sc])), (a_stb, .inl (cB, 8000, .inl sb)), (a_pl, .inr (4, [.ref a_plm, .ref a_pll, .int la, .int ld, .int lq, .int lz])), (a_plm, .inl (cI, 64, .inl lm)), (a_pll, .inl (cI, 1024, .inl lv))] H_4 := hP.sub [0, 1, 2, 3, 4, 5, 6] rfl
        have hD : va_D A [(a_pr, .inr (5, [.ref a_br])), (a_br, .inr (0, [.ref a_st, .int rn, .int rf, .int rp])), (a_st, .inr (7, [.ref a_stb, .int sc])), (a_stb, .inl (cB, 8000, .inl sb)), (a_pl, .inr (4, [.ref a_plm, .ref a_pll, .int la, .int ld, .int lq, .int lz])), (a_plm, .inl (cI, 64, .inl lm)), (a_pll, .inl (cI, 1024, .inl lv))] := hD.sub [0, 1, 2, 3, 4, 5, 6] (by decide) rfl
        refine lv_icmp_ge (tgt := 53) hx hb dX5_read_24 (by decide) (fun c_5 => ?_) (fun c_5 => ?_)
        · have h := h.1 c_5
          exact hX v2 rn rf rp lm lv H_4 _ _ h hP hD hS (lv_sub hl [0, 1, 2] rfl)
        · have h := h.2 c_5
          refine lv_aload_n hx hb dX5_read_27 rfl (lv_at hl 0 rfl) ?_
          refine lv_aload_n hx hb dX5_read_28 rfl (lv_at hl 1 rfl) ?_
          refine lv_iload_n hx hb dX5_read_29 rfl (lv_at hl 2 rfl) ?_
          have hPc := hP.sub (ws' := [(a_pr, .inr (5, [.ref a_br])), (a_br, .inr (0, [.ref a_st, .int rn, .int rf, .int rp])), (a_st, .inr (7, [.ref a_stb, .int sc])), (a_stb, .inl (cB, 8000, .inl sb)), (a_pl, .inr (4, [.ref a_plm, .ref a_pll, .int la, .int ld, .int lq, .int lz])), (a_plm, .inl (cI, 64, .inl lm)), (a_pll, .inl (cI, 1024, .inl lv))]) [0, 1, 2, 3, 4, 5, 6] rfl
          have hDc := hD.sub (ws' := [(a_pr, .inr (5, [.ref a_br])), (a_br, .inr (0, [.ref a_st, .int rn, .int rf, .int rp])), (a_st, .inr (7, [.ref a_stb, .int sc])), (a_stb, .inl (cB, 8000, .inl sb)), (a_pl, .inr (4, [.ref a_plm, .ref a_pll, .int la, .int ld, .int lq, .int lz])), (a_plm, .inl (cI, 64, .inl lm)), (a_pll, .inl (cI, 1024, .inl lv))]) [0, 1, 2, 3, 4, 5, 6] (by decide) rfl
          have hFc := va_free (wc := [(a_pr, .inr (5, [.ref a_br])), (a_br, .inr (0, [.ref a_st, .int rn, .int rf, .int rp])), (a_st, .inr (7, [.ref a_stb, .int sc])), (a_stb, .inl (cB, 8000, .inl sb)), (a_pl, .inr (4, [.ref a_plm, .ref a_pll, .int la, .int ld, .int lq, .int lz])), (a_plm, .inl (cI, 64, .inl lm)), (a_pll, .inl (cI, 1024, .inl lv))]) hD hS hA [0, 1, 2, 3, 4, 5, 6] rfl
          refine jm_calli (wr := []) (va_runV (As := [.ref a_pl, .int v2]) (rest := []) ⟨hx, hb, hml, hown, hts⟩ (c_X5_readMode l D cI cB tt a_pr a_br a_st a_stb a_pl a_plm a_pll H_4.size rn rf rp sc sb la ld lq lz lm lv v2 h) (cwV 2 hts (jm_gV mw_347 mw_349 mw_2 mw_62 mw_350) rfl rfl rfl (by decide +kernel) ⟨Nat.le_of_ble_eq_true rfl, Nat.le_of_ble_eq_true rfl⟩) ⟨jm_blind, va_recv hK hPc (ci := 5) (q0 := 0) rfl rfl, jm_pre hK hE hS hPc hDc hFc _⟩ rfl rfl hl.1 rfl (lv_room (Nat.le_of_ble_eq_true rfl)) dX5_read_30 ⟨Nat.zero_le _, Nat.zero_le _⟩) hS hP hD [0, 1, 2, 3, 4, 5, 6] [] rfl rfl (by decide) (by decide) hFc (fun r_6 u_6 H_6 locs hw hP hD hS => ?_)
          obtain ⟨rn_6, rf_6, rp_6, lm_6⟩ := u_6
          have h := pr4_out hw
          have hP : va_P D vwCl [(a_pr, .inr (5, [.ref a_br])), (a_br, .inr (0, [.ref a_st, .int rn_6, .int rf_6, .int rp_6])), (a_st, .inr (7, [.ref a_stb, .int sc])), (a_stb, .inl (cB, 8000, .inl sb)), (a_pl, .inr (4, [.ref a_plm, .ref a_pll, .int la, .int ld, .int lq, .int lz])), (a_plm, .inl (cI, 64, .inl lm_6)), (a_pll, .inl (cI, 1024, .inl lv))] H_6 := hP.sub [0, 1, 2, 3, 4, 5, 6] rfl
          have hD : va_D A [(a_pr, .inr (5, [.ref a_br])), (a_br, .inr (0, [.ref a_st, .int rn_6, .int rf_6, .int rp_6])), (a_st, .inr (7, [.ref a_stb, .int sc])), (a_stb, .inl (cB, 8000, .inl sb)), (a_pl, .inr (4, [.ref a_plm, .ref a_pll, .int la, .int ld, .int lq, .int lz])), (a_plm, .inl (cI, 64, .inl lm_6)), (a_pll, .inl (cI, 1024, .inl lv))] := hD.sub [0, 1, 2, 3, 4, 5, 6] (by decide) rfl
          refine lv_if_eq (tgt := 45) hx hb dX5_read_33 (by decide) (fun c_7 => ?_) (fun c_7 => ?_)
          · have h := h.1 c_7
            refine lv_iconst (v := 0) hx hb dX5_read_45 (by decide) ?_
            exact hret 0 (rn_6, rf_6, rp_6, la, ld, lq, lz, lm_6, lv) _ _ _ _ dX5_read_46 (by decide) h hP hD hS
          · have h := h.2 c_7
            refine lv_aload_n hx hb dX5_read_36 rfl (lv_at hl 0 rfl) ?_
            refine lv_aload_n hx hb dX5_read_37 rfl (lv_at hl 1 rfl) ?_
            refine lv_iload_n hx hb dX5_read_38 rfl (lv_at hl 2 rfl) ?_
            have hPc := hP.sub (ws' := [(a_pr, .inr (5, [.ref a_br])), (a_br, .inr (0, [.ref a_st, .int rn_6, .int rf_6, .int rp_6])), (a_st, .inr (7, [.ref a_stb, .int sc])), (a_stb, .inl (cB, 8000, .inl sb)), (a_pl, .inr (4, [.ref a_plm, .ref a_pll, .int la, .int ld, .int lq, .int lz])), (a_plm, .inl (cI, 64, .inl lm_6)), (a_pll, .inl (cI, 1024, .inl lv))]) [0, 1, 2, 3, 4, 5, 6] rfl
            have hDc := hD.sub (ws' := [(a_pr, .inr (5, [.ref a_br])), (a_br, .inr (0, [.ref a_st, .int rn_6, .int rf_6, .int rp_6])), (a_st, .inr (7, [.ref a_stb, .int sc])), (a_stb, .inl (cB, 8000, .inl sb)), (a_pl, .inr (4, [.ref a_plm, .ref a_pll, .int la, .int ld, .int lq, .int lz])), (a_plm, .inl (cI, 64, .inl lm_6)), (a_pll, .inl (cI, 1024, .inl lv))]) [0, 1, 2, 3, 4, 5, 6] (by decide) rfl
            have hFc := va_free (wc := [(a_pr, .inr (5, [.ref a_br])), (a_br, .inr (0, [.ref a_st, .int rn_6, .int rf_6, .int rp_6])), (a_st, .inr (7, [.ref a_stb, .int sc])), (a_stb, .inl (cB, 8000, .inl sb)), (a_pl, .inr (4, [.ref a_plm, .ref a_pll, .int la, .int ld, .int lq, .int lz])), (a_plm, .inl (cI, 64, .inl lm_6)), (a_pll, .inl (cI, 1024, .inl lv))]) hD hS hA [0, 1, 2, 3, 4, 5, 6] rfl
            refine jm_calli (wr := []) (va_runV (As := [.ref a_pl, .int v2]) (rest := []) ⟨hx, hb, hml, hown, hts⟩ (c_X5_readLevels l D cI cB tt a_pr a_br a_st a_stb a_pl a_plm a_pll H_6.size rn_6 rf_6 rp_6 sc sb la ld lq lz lm_6 lv v2 h) (cwV 2 hts (jm_gV mw_372 mw_374 mw_3 mw_62 mw_375) rfl rfl rfl (by decide +kernel) ⟨Nat.le_of_ble_eq_true rfl, Nat.le_of_ble_eq_true rfl⟩) ⟨jm_blind, va_recv hK hPc (ci := 5) (q0 := 0) rfl rfl, jm_pre hK hE hS hPc hDc hFc _⟩ rfl rfl hl.1 rfl (lv_room (Nat.le_of_ble_eq_true rfl)) dX5_read_39 ⟨Nat.zero_le _, Nat.zero_le _⟩) hS hP hD [0, 1, 2, 3, 4, 5, 6] [] rfl rfl (by decide) (by decide) hFc (fun r_8 u_8 H_8 locs hw hP hD hS => ?_)
            obtain ⟨rn_8, rf_8, rp_8, lv_8⟩ := u_8
            have h := pr4_out hw
            have hP : va_P D vwCl [(a_pr, .inr (5, [.ref a_br])), (a_br, .inr (0, [.ref a_st, .int rn_8, .int rf_8, .int rp_8])), (a_st, .inr (7, [.ref a_stb, .int sc])), (a_stb, .inl (cB, 8000, .inl sb)), (a_pl, .inr (4, [.ref a_plm, .ref a_pll, .int la, .int ld, .int lq, .int lz])), (a_plm, .inl (cI, 64, .inl lm_6)), (a_pll, .inl (cI, 1024, .inl lv_8))] H_8 := hP.sub [0, 1, 2, 3, 4, 5, 6] rfl
            have hD : va_D A [(a_pr, .inr (5, [.ref a_br])), (a_br, .inr (0, [.ref a_st, .int rn_8, .int rf_8, .int rp_8])), (a_st, .inr (7, [.ref a_stb, .int sc])), (a_stb, .inl (cB, 8000, .inl sb)), (a_pl, .inr (4, [.ref a_plm, .ref a_pll, .int la, .int ld, .int lq, .int lz])), (a_plm, .inl (cI, 64, .inl lm_6)), (a_pll, .inl (cI, 1024, .inl lv_8))] := hD.sub [0, 1, 2, 3, 4, 5, 6] (by decide) rfl
            refine lv_if_ne (tgt := 47) hx hb dX5_read_42 (by decide) (fun c_9 => ?_) (fun c_9 => ?_)
            · have h := h.2 c_9
              obtain ⟨x2_10, ex2_10⟩ : ∃ y : Int32, y = v2 + 1 := ⟨_, rfl⟩
              have h := h x2_10 ex2_10
              refine lv_iinc (v := x2_10) (lv' := [(2, .int x2_10), (0, .ref a_pr), (1, .ref a_pl)]) hx hb dX5_read_47 hl (k := 2) rfl (by rw [ex2_10]; rfl) (by decide) rfl (fun ls hl => ?_)
              refine lv_goto (tgt := 19) hx hb dX5_read_50 (by decide) ?_
              exact ih x2_10 rn_8 rf_8 rp_8 lm_6 lv_8 H_8 _ _ h hP hD hS (lv_sub hl [1, 2, 0] rfl)
            · have h := h.1 c_9
              refine lv_iconst (v := 0) hx hb dX5_read_45 (by decide) ?_
              exact hret 0 (rn_8, rf_8, rp_8, la, ld, lq, lz, lm_6, lv_8) _ _ _ _ dX5_read_46 (by decide) h hP hD hS
    refine hL_11 la_2 ld_2 lq_2 lz_2 _ ?_ n_11 0 rn_2 rf_2 rp_2 lm_2 lv_2 H_2 _ _ h hP hD hS (lv_sub hl [1, 2, 0] rfl)
    intro v2_11 rn_11 rf_11 rp_11 lm_11 lv_11 H locs ls h hP hD hS hl
    refine lv_aload_n hx hb dX5_read_53 rfl (lv_at hl 0 rfl) ?_
    refine va_get (D := D) (ci := 5) (v := .ref a_br) (C := RX5) (T := TX5) (N := 1) hx hb hts iX5 hown hK hP 0 rfl rfl 0 (by decide) lk14 (fun _ h9 => h9) rfl dX5_read_54 ?_
    have hPc := hP.sub (ws' := [(a_br, .inr (0, [.ref a_st, .int rn_11, .int rf_11, .int rp_11])), (a_st, .inr (7, [.ref a_stb, .int sc])), (a_stb, .inl (cB, 8000, .inl sb))]) [1, 2, 3] rfl
    have hDc := hD.sub (ws' := [(a_br, .inr (0, [.ref a_st, .int rn_11, .int rf_11, .int rp_11])), (a_st, .inr (7, [.ref a_stb, .int sc])), (a_stb, .inl (cB, 8000, .inl sb))]) [1, 2, 3] (by decide) rfl
    have hFc := va_free (wc := [(a_br, .inr (0, [.ref a_st, .int rn_11, .int rf_11, .int rp_11])), (a_st, .inr (7, [.ref a_stb, .int sc])), (a_stb, .inl (cB, 8000, .inl sb))]) hD hS hA [1, 2, 3] rfl
    refine jm_calli (wr := [(a_pr, .inr (5, [.ref a_br])), (a_pl, .inr (4, [.ref a_plm, .ref a_pll, .int la_2, .int ld_2, .int lq_2, .int lz_2])), (a_plm, .inl (cI, 64, .inl lm_11)), (a_pll, .inl (cI, 1024, .inl lv_11))]) (va_runV (As := []) (rest := []) ⟨hx, hb, hml, hown, hts⟩ (c_X0_endsClean l D cI cB tt a_br a_st a_stb H.size rn_11 rf_11 rp_11 sc sb h) (cwV 0 hts (jm_gV mw_382 mw_383 mw_384 mw_63 mw_385) rfl rfl rfl (by decide +kernel) ⟨Nat.le_of_ble_eq_true rfl, Nat.le_of_ble_eq_true rfl⟩) ⟨jm_blind, va_recv hK hPc (ci := 0) (q0 := 0) rfl rfl, jm_pre hK hE hS hPc hDc hFc _⟩ rfl rfl hl.1 rfl (lv_room (Nat.le_of_ble_eq_true rfl)) dX5_read_57 ⟨Nat.zero_le _, Nat.zero_le _⟩) hS hP hD [1, 2, 3] [0, 4, 5, 6] rfl rfl (by decide) (by decide) hFc (fun r_12 u_12 H_12 locs hw hP hD hS => ?_)
    obtain ⟨rf_12, rp_12⟩ := u_12
    have h := pr2_out hw
    have hP : va_P D vwCl [(a_pr, .inr (5, [.ref a_br])), (a_br, .inr (0, [.ref a_st, .int rn_11, .int rf_12, .int rp_12])), (a_st, .inr (7, [.ref a_stb, .int sc])), (a_stb, .inl (cB, 8000, .inl sb)), (a_pl, .inr (4, [.ref a_plm, .ref a_pll, .int la_2, .int ld_2, .int lq_2, .int lz_2])), (a_plm, .inl (cI, 64, .inl lm_11)), (a_pll, .inl (cI, 1024, .inl lv_11))] H_12 := hP.sub [0, 4, 5, 6, 1, 2, 3] rfl
    have hD : va_D A [(a_pr, .inr (5, [.ref a_br])), (a_br, .inr (0, [.ref a_st, .int rn_11, .int rf_12, .int rp_12])), (a_st, .inr (7, [.ref a_stb, .int sc])), (a_stb, .inl (cB, 8000, .inl sb)), (a_pl, .inr (4, [.ref a_plm, .ref a_pll, .int la_2, .int ld_2, .int lq_2, .int lz_2])), (a_plm, .inl (cI, 64, .inl lm_11)), (a_pll, .inl (cI, 1024, .inl lv_11))] := hD.sub [0, 4, 5, 6, 1, 2, 3] (by decide) rfl
    obtain ⟨hz_13, h⟩ := h
    exact hret r_12 (rn_11, rf_12, rp_12, la_2, ld_2, lq_2, lz_2, lm_11, lv_11) _ _ _ _ dX5_read_60 hz_13.1 h hP hD hS
  · have h := h.1 c_3
    refine lv_iconst (v := 0) hx hb dX5_read_15 (by decide) ?_
    exact hret 0 (rn_2, rf_2, rp_2, la_2, ld_2, lq_2, lz_2, lm_2, lv_2) _ _ _ _ dX5_read_16 (by decide) h hP hD hS
