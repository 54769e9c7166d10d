def wp_X10_backLine (mwk : (Nat → Int32)) (v1 v2 : Int32) (K : (Nat → Int32) → Prop) : Prop := vp_in v1 16 ∧ ∀ x3_2 : Int32, x3_2 = jat mwk v1 → vp_in (v1 + v2) 16 ∧ ∀ x4_4 : Int32, x4_4 = jat mwk (v1 + v2) → vp_in (v1 + (2 * v2)) 16 ∧ ∀ x5_6 : Int32, x5_6 = jat mwk (v1 + (2 * v2)) → vp_in (v1 + (3 * v2)) 16 ∧ ∀ x6_8 : Int32, x6_8 = jat mwk (v1 + (3 * v2)) → ∀ x7_9 : Int32, x7_9 = x3_2 + x5_6 → ∀ x8_10 : Int32, x8_10 = x3_2 - x5_6 → wp_X10_down x4_4 2 (fun (r_11 : Int32) => ∀ x9_12 : Int32, x9_12 = r_11 - x6_8 → wp_X10_down x6_8 2 (fun (r_13 : Int32) => ∀ x10_14 : Int32, x10_14 = x4_4 + r_13 → vp_in v1 16 ∧ vp_in (v1 + v2) 16 ∧ vp_in (v1 + (2 * v2)) 16 ∧ vp_in (v1 + (3 * v2)) 16 ∧ K (jup (jup (jup (jup mwk v1 (x7_9 + x10_14)) (v1 + v2) (x8_10 + x9_12)) (v1 + (2 * v2)) (x8_10 - x9_12)) (v1 + (3 * v2)) (x7_9 - x10_14))))
abbrev jw_X10_backLine : List Cond := .code yX10_backLine cX10_backLine 11 none :: jmAll
abbrev rmX10_backLine : Room := { frames := 1, cells := 0, slots := 0, locals := 21 }
set_option maxHeartbeats 4000000 in
set_option maxRecDepth 100000 in
theorem c_X10_backLine (l : Launch) (D : va_G) (cI cB : ClassId) (tt : Nat × Nat × Nat) (a_mo a_mo2 a_mo3 a_mo4 a_mo5 a_mo6 a_mo7 a_mo8 a_mo11 a_mo16 : Nat) (sz : Nat) (ma : Int32) (md : Int32) (mq : Int32) (mz : Int32) (msz : Int32) (mat : Int32) (mpl : Int32) (mfa : Int32) (mth : Int32) (mpic : (Nat → Int32)) (mgiv : (Nat → Int32)) (mkep : (Nat → Int32)) (mmod : (Nat → Int32)) (mcoe : (Nat → Int32)) (mnmo : (Nat → Int32)) (mnco : (Nat → Int32)) (mby : (Nat → Int32)) (mwk : (Nat → Int32)) (v1 v2 : Int32) {K : (Nat → Int32) → Prop} (h : wp_X10_backLine mwk v1 v2 K) : Met l yX10_backLine jw_X10_backLine rmX10_backLine (va_Pc [.ref a_mo, .int v1, .int v2] (jm_Pre D cI cB tt (wd_mo_mo2_mo3_mo4_mo5_mo6_mo7_mo8_mo11_mo16 cI cB a_mo a_mo2 a_mo3 a_mo4 a_mo5 a_mo6 a_mo7 a_mo8 a_mo11 a_mo16 ma md mq mz msz mat mpl mfa mth mpic mgiv mkep mmod mcoe mnmo mnco mby mwk) sz)) (va_Qv (fun (u : (Nat → Int32)) => K u) (jm_Post D cI cB (wd_mo_mo2_mo3_mo4_mo5_mo6_mo7_mo8_mo11_mo16 cI cB a_mo a_mo2 a_mo3 a_mo4 a_mo5 a_mo6 a_mo7 a_mo8 a_mo11 a_mo16 ma md mq mz msz mat mpl mfa mth mpic mgiv mkep mmod mcoe mnmo mnco mby mwk) sz (fun (u : (Nat → Int32)) => wd_mo_mo2_mo3_mo4_mo5_mo6_mo7_mo8_mo11_mo16 cI cB a_mo a_mo2 a_mo3 a_mo4 a_mo5 a_mo6 a_mo7 a_mo8 a_mo11 a_mo16 ma md mq mz msz mat mpl mfa mth mpic mgiv mkep mmod mcoe mnmo mnco mby u)) (va_A (wd_mo_mo2_mo3_mo4_mo5_mo6_mo7_mo8_mo11_mo16 cI cB a_mo a_mo2 a_mo3 a_mo4 a_mo5 a_mo6 a_mo7 a_mo8 a_mo11 a_mo16 ma md mq mz msz mat mpl mfa mth mpic mgiv mkep mmod mcoe mnmo mnco mby mwk) sz)) 0 0 (va_A (wd_mo_mo2_mo3_mo4_mo5_mo6_mo7_mo8_mo11_mo16 cI cB a_mo a_mo2 a_mo3 a_mo4 a_mo5 a_mo6 a_mo7 a_mo8 a_mo11 a_mo16 ma md mq mz msz mat mpl mfa mth mpic mgiv mkep mmod mcoe mnmo mnco mby mwk) sz) := by
  refine jm_metV (by decide +kernel) rfl rfl (Nat.le_of_ble_eq_true rfl) ?_
  intro p e s m args below meth c A Q ls C0 hP hD hl hret
  obtain ⟨hx, hb, hml, hr, hown, hts, hlocks, hA, hK, hE⟩ := C0
  have hS : va_S A s.heap s.heap [] := va_S.rf
  have hl : lv_has ls 11 [(0, .ref a_mo), (1, .int v1), (2, .int v2)] := hl
  unfold wp_X10_backLine at h
  have hP : va_P D vwCl [(a_mo, .inr (10, [.int ma, .int md, .ref a_mo2, .ref a_mo3, .ref a_mo4, .ref a_mo5, .ref a_mo6, .ref a_mo7, .ref a_mo8, .int mq, .int mz, .ref a_mo11, .int msz, .int mat, .int mpl, .int mfa, .ref a_mo16, .int mth])), (a_mo2, .inl (cI, 1024, .inl mpic)), (a_mo3, .inl (cI, 1024, .inl mgiv)), (a_mo4, .inl (cI, 1024, .inl mkep)), (a_mo5, .inl (cI, 64, .inl mmod)), (a_mo6, .inl (cI, 1024, .inl mcoe)), (a_mo7, .inl (cI, 64, .inl mnmo)), (a_mo8, .inl (cI, 1024, .inl mnco)), (a_mo11, .inl (cI, 8000, .inl mby)), (a_mo16, .inl (cI, 16, .inl mwk))] s.heap := hP
  have hD : va_D A [(a_mo, .inr (10, [.int ma, .int md, .ref a_mo2, .ref a_mo3, .ref a_mo4, .ref a_mo5, .ref a_mo6, .ref a_mo7, .ref a_mo8, .int mq, .int mz, .ref a_mo11, .int msz, .int mat, .int mpl, .int mfa, .ref a_mo16, .int mth])), (a_mo2, .inl (cI, 1024, .inl mpic)), (a_mo3, .inl (cI, 1024, .inl mgiv)), (a_mo4, .inl (cI, 1024, .inl mkep)), (a_mo5, .inl (cI, 64, .inl mmod)), (a_mo6, .inl (cI, 1024, .inl mcoe)), (a_mo7, .inl (cI, 64, .inl mnmo)), (a_mo8, .inl (cI, 1024, .inl mnco)), (a_mo11, .inl (cI, 8000, .inl mby)), (a_mo16, .inl (cI, 16, .inl mwk))] := hD
  have iX10 : ∀ w ∈ wsX100, w ∈ jw_X10_backLine := fun w h => List.mem_cons_of_mem _ (jm_iX10 w h)
  have lk44 := hts (.fieldLink RX10 44 "IntraMillModel" "work" "[I") (List.mem_cons_of_mem _ mw_750)
  refine lv_aload_n hx hb dX10_backLine_0 rfl (lv_at hl 0 rfl) ?_
  refine va_get (D := D) (ci := 10) (v := .ref a_mo16) (C := RX10) (T := TX10) (N := 18) hx hb hts iX10 hown hK hP 0 rfl rfl 16 (by decide) lk44 (fun _ h9 => h9) rfl dX10_backLine_1 ?_
  refine lv_iload_n hx hb dX10_backLine_4 rfl (lv_at hl 1 rfl) ?_
  obtain ⟨hi_1, h⟩ := h
  refine va_iald hx hb hK hP 9 0 rfl rfl hi_1 dX10_backLine_5 ?_
  refine lv_topi (fun x3_2 ex3_2 => ?_)
  have h := h x3_2 ex3_2
  refine lv_istore_n (lv' := [(3, .int x3_2), (0, .ref a_mo), (1, .int v1), (2, .int v2)]) hx hb dX10_backLine_6 rfl hl (by decide) rfl (fun ls hl => ?_)
  refine lv_aload_n hx hb dX10_backLine_7 rfl (lv_at hl 1 rfl) ?_
  refine va_get (D := D) (ci := 10) (v := .ref a_mo16) (C := RX10) (T := TX10) (N := 18) hx hb hts iX10 hown hK hP 0 rfl rfl 16 (by decide) lk44 (fun _ h9 => h9) rfl dX10_backLine_8 ?_
  refine lv_iload_n hx hb dX10_backLine_11 rfl (lv_at hl 2 rfl) ?_
  refine lv_iload_n hx hb dX10_backLine_12 rfl (lv_at hl 3 rfl) ?_
  refine lv_iadd hx hb dX10_backLine_13 ?_
  obtain ⟨hi_3, h⟩ := h
  refine va_iald hx hb hK hP 9 0 rfl rfl hi_3 dX10_backLine_14 ?_
  refine lv_topi (fun x4_4 ex4_4 => ?_)
  have h := h x4_4 ex4_4
  refine lv_istore (lv' := [(4, .int x4_4), (3, .int x3_2), (0, .ref a_mo), (1, .int v1), (2, .int v2)]) hx hb dX10_backLine_15 hl (by decide) rfl (fun ls hl => ?_)
  refine lv_aload_n hx hb dX10_backLine_17 rfl (lv_at hl 2 rfl) ?_
  refine va_get (D := D) (ci := 10) (v := .ref a_mo16) (C := RX10) (T := TX10) (N := 18) hx hb hts iX10 hown hK hP 0 rfl rfl 16 (by decide) lk44 (fun _ h9 => h9) rfl dX10_backLine_18 ?_
  refine lv_iload_n hx hb dX10_backLine_21 rfl (lv_at hl 3 rfl) ?_
  refine lv_iconst (v := 2) hx hb dX10_backLine_22 (by decide) ?_
  refine lv_iload_n hx hb dX10_backLine_23 rfl (lv_at hl 4 rfl) ?_
  refine lv_imul hx hb dX10_backLine_24 ?_
  refine lv_iadd hx hb dX10_backLine_25 ?_
  obtain ⟨hi_5, h⟩ := h
  refine va_iald hx hb hK hP 9 0 rfl rfl hi_5 dX10_backLine_26 ?_
  refine lv_topi (fun x5_6 ex5_6 => ?_)
  have h := h x5_6 ex5_6
  refine lv_istore (lv' := [(5, .int x5_6), (4, .int x4_4), (3, .int x3_2), (0, .ref a_mo), (1, .int v1), (2, .int v2)]) hx hb dX10_backLine_27 hl (by decide) rfl (fun ls hl => ?_)
  refine lv_aload_n hx hb dX10_backLine_29 rfl (lv_at hl 3 rfl) ?_
  refine va_get (D := D) (ci := 10) (v := .ref a_mo16) (C := RX10) (T := TX10) (N := 18) hx hb hts iX10 hown hK hP 0 rfl rfl 16 (by decide) lk44 (fun _ h9 => h9) rfl dX10_backLine_30 ?_
  refine lv_iload_n hx hb dX10_backLine_33 rfl (lv_at hl 4 rfl) ?_
  refine lv_iconst (v := 3) hx hb dX10_backLine_34 (by decide) ?_
  refine lv_iload_n hx hb dX10_backLine_35 rfl (lv_at hl 5 rfl) ?_
  refine lv_imul hx hb dX10_backLine_36 ?_
  refine lv_iadd hx hb dX10_backLine_37 ?_
  obtain ⟨hi_7, h⟩ := h
  refine va_iald hx hb hK hP 9 0 rfl rfl hi_7 dX10_backLine_38 ?_
  refine lv_topi (fun x6_8 ex6_8 => ?_)
  have h := h x6_8 ex6_8
  refine lv_istore (lv' := [(6, .int x6_8), (5, .int x5_6), (4, .int x4_4), (3, .int x3_2), (0, .ref a_mo), (1, .int v1), (2, .int v2)]) hx hb dX10_backLine_39 hl (by decide) rfl (fun ls hl => ?_)
  refine lv_iload_n hx hb dX10_backLine_41 rfl (lv_at hl 3 rfl) ?_
  refine lv_iload hx hb dX10_backLine_42 (lv_at hl 1 rfl) ?_
  refine lv_iadd hx hb dX10_backLine_44 ?_
  refine lv_topi (fun x7_9 ex7_9 => ?_)
  have h := h x7_9 ex7_9
  refine lv_istore (lv' := [(7, .int x7_9), (6, .int x6_8), (5, .int x5_6), (4, .int x4_4), (3, .int x3_2), (0, .ref a_mo), (1, .int v1), (2, .int v2)]) hx hb dX10_backLine_45 hl (by decide) rfl (fun ls hl => ?_)
  refine lv_iload_n hx hb dX10_backLine_47 rfl (lv_at hl 4 rfl) ?_
  refine lv_iload hx hb dX10_backLine_48 (lv_at hl 2 rfl) ?_
  refine lv_isub hx hb dX10_backLine_50 ?_
  refine lv_topi (fun x8_10 ex8_10 => ?_)
  have h := h x8_10 ex8_10
  refine lv_istore (lv' := [(8, .int x8_10), (7, .int x7_9), (6, .int x6_8), (5, .int x5_6), (4, .int x4_4), (3, .int x3_2), (0, .ref a_mo), (1, .int v1), (2, .int v2)]) hx hb dX10_backLine_51 hl (by decide) rfl (fun ls hl => ?_)
  refine lv_iload hx hb dX10_backLine_53 (lv_at hl 4 rfl) ?_
  refine lv_iconst (v := 2) hx hb dX10_backLine_55 (by decide) ?_
  have hPc := hP.sub (ws' := []) [] rfl
  have hDc := hD.sub (ws' := []) [] (by decide) rfl
  have hFc := va_free (wc := []) hD hS hA [] rfl
  refine jm_calli (wr := [(a_mo, .inr (10, [.int ma, .int md, .ref a_mo2, .ref a_mo3, .ref a_mo4, .ref a_mo5, .ref a_mo6, .ref a_mo7, .ref a_mo8, .int mq, .int mz, .ref a_mo11, .int msz, .int mat, .int mpl, .int mfa, .ref a_mo16, .int mth])), (a_mo2, .inl (cI, 1024, .inl mpic)), (a_mo3, .inl (cI, 1024, .inl mgiv)), (a_mo4, .inl (cI, 1024, .inl mkep)), (a_mo5, .inl (cI, 64, .inl mmod)), (a_mo6, .inl (cI, 1024, .inl mcoe)), (a_mo7, .inl (cI, 64, .inl mnmo)), (a_mo8, .inl (cI, 1024, .inl mnco)), (a_mo11, .inl (cI, 8000, .inl mby)), (a_mo16, .inl (cI, 16, .inl mwk))]) (va_runS (As := [.int x4_4, .int 2]) (rest := []) ⟨hx, hb, hml, hown, hts⟩ (c_X10_down l D cI cB tt s.heap.size x4_4 2 h) (va_cwS 2 hts (jm_gS mw_909 mw_910 mw_65 mw_911) rfl rfl rfl (by decide +kernel) ⟨Nat.le_of_ble_eq_true rfl, Nat.le_of_ble_eq_true rfl⟩) ⟨jm_blind, jm_pre hK hE hS hPc hDc hFc _⟩ rfl rfl hl.1 rfl (lv_room (Nat.le_of_ble_eq_true rfl)) dX10_backLine_56 ⟨Nat.zero_le _, Nat.zero_le _⟩) hS hP hD [] [0, 1, 2, 3, 4, 5, 6, 7, 8, 9] rfl rfl (by decide) (by decide) hFc (fun r_11 u_11 H_11 locs hw hP hD hS => ?_)
  have h := hw
  have hP : va_P D vwCl [(a_mo, .inr (10, [.int ma, .int md, .ref a_mo2, .ref a_mo3, .ref a_mo4, .ref a_mo5, .ref a_mo6, .ref a_mo7, .ref a_mo8, .int mq, .int mz, .ref a_mo11, .int msz, .int mat, .int mpl, .int mfa, .ref a_mo16, .int mth])), (a_mo2, .inl (cI, 1024, .inl mpic)), (a_mo3, .inl (cI, 1024, .inl mgiv)), (a_mo4, .inl (cI, 1024, .inl mkep)), (a_mo5, .inl (cI, 64, .inl mmod)), (a_mo6, .inl (cI, 1024, .inl mcoe)), (a_mo7, .inl (cI, 64, .inl mnmo)), (a_mo8, .inl (cI, 1024, .inl mnco)), (a_mo11, .inl (cI, 8000, .inl mby)), (a_mo16, .inl (cI, 16, .inl mwk))] H_11 := hP.sub [0, 1, 2, 3, 4, 5, 6, 7, 8, 9] rfl
  have hD : va_D A [(a_mo, .inr (10, [.int ma, .int md, .ref a_mo2, .ref a_mo3, .ref a_mo4, .ref a_mo5, .ref a_mo6, .ref a_mo7, .ref a_mo8, .int mq, .int mz, .ref a_mo11, .int msz, .int mat, .int mpl, .int mfa, .ref a_mo16, .int mth])), (a_mo2, .inl (cI, 1024, .inl mpic)), (a_mo3, .inl (cI, 1024, .inl mgiv)), (a_mo4, .inl (cI, 1024, .inl mkep)), (a_mo5, .inl (cI, 64, .inl mmod)), (a_mo6, .inl (cI, 1024, .inl mcoe)), (a_mo7, .inl (cI, 64, .inl mnmo)), (a_mo8, .inl (cI, 1024, .inl mnco)), (a_mo11, .inl (cI, 8000, .inl mby)), (a_mo16, .inl (cI, 16, .inl mwk))] := hD.sub [0, 1, 2, 3, 4, 5, 6, 7, 8, 9] (by decide) rfl
  refine lv_iload hx hb dX10_backLine_59 (lv_at hl 2 rfl) ?_
  refine lv_isub hx hb dX10_backLine_61 ?_
  refine lv_topi (fun x9_12 ex9_12 => ?_)
  have h := h x9_12 ex9_12
  refine lv_istore (lv' := [(9, .int x9_12), (8, .int x8_10), (7, .int x7_9), (6, .int x6_8), (5, .int x5_6), (4, .int x4_4), (3, .int x3_2), (0, .ref a_mo), (1, .int v1), (2, .int v2)]) hx hb dX10_backLine_62 hl (by decide) rfl (fun ls hl => ?_)
  refine lv_iload hx hb dX10_backLine_64 (lv_at hl 5 rfl) ?_
  refine lv_iload hx hb dX10_backLine_66 (lv_at hl 3 rfl) ?_
  refine lv_iconst (v := 2) hx hb dX10_backLine_68 (by decide) ?_
  have hPc := hP.sub (ws' := []) [] rfl
  have hDc := hD.sub (ws' := []) [] (by decide) rfl
  have hFc := va_free (wc := []) hD hS hA [] rfl
  refine jm_calli (wr := [(a_mo, .inr (10, [.int ma, .int md, .ref a_mo2, .ref a_mo3, .ref a_mo4, .ref a_mo5, .ref a_mo6, .ref a_mo7, .ref a_mo8, .int mq, .int mz, .ref a_mo11, .int msz, .int mat, .int mpl, .int mfa, .ref a_mo16, .int mth])), (a_mo2, .inl (cI, 1024, .inl mpic)), (a_mo3, .inl (cI, 1024, .inl mgiv)), (a_mo4, .inl (cI, 1024, .inl mkep)), (a_mo5, .inl (cI, 64, .inl mmod)), (a_mo6, .inl (cI, 1024, .inl mcoe)), (a_mo7, .inl (cI, 64, .inl mnmo)), (a_mo8, .inl (cI, 1024, .inl mnco)), (a_mo11, .inl (cI, 8000, .inl mby)), (a_mo16, .inl (cI, 16, .inl mwk))]) (va_runS (As := [.int x6_8, .int 2]) (rest := [.int x4_4]) ⟨hx, hb, hml, hown, hts⟩ (c_X10_down l D cI cB tt H_11.size x6_8 2 h) (va_cwS 2 hts (jm_gS mw_909 mw_910 mw_65 mw_911) rfl rfl rfl (by decide +kernel) ⟨Nat.le_of_ble_eq_true rfl, Nat.le_of_ble_eq_true rfl⟩) ⟨jm_blind, jm_pre hK hE hS hPc hDc hFc _⟩ rfl rfl hl.1 rfl (lv_room (Nat.le_of_ble_eq_true rfl)) dX10_backLine_69 ⟨Nat.zero_le _, Nat.zero_le _⟩) hS hP hD [] [0, 1, 2, 3, 4, 5, 6, 7, 8, 9] rfl rfl (by decide) (by decide) hFc (fun r_13 u_13 H_13 locs hw hP hD hS => ?_)
  have h := hw
  have hP : va_P D vwCl [(a_mo, .inr (10, [.int ma, .int md, .ref a_mo2, .ref a_mo3, .ref a_mo4, .ref a_mo5, .ref a_mo6, .ref a_mo7, .ref a_mo8, .int mq, .int mz, .ref a_mo11, .int msz, .int mat, .int mpl, .int mfa, .ref a_mo16, .int mth])), (a_mo2, .inl (cI, 1024, .inl mpic)), (a_mo3, .inl (cI, 1024, .inl mgiv)), (a_mo4, .inl (cI, 1024, .inl mkep)), (a_mo5, .inl (cI, 64, .inl mmod)), (a_mo6, .inl (cI, 1024, .inl mcoe)), (a_mo7, .inl (cI, 64, .inl mnmo)), (a_mo8, .inl (cI, 1024, .inl mnco)), (a_mo11, .inl (cI, 8000, .inl mby)), (a_mo16, .inl (cI, 16, .inl mwk))] H_13 := hP.sub [0, 1, 2, 3, 4, 5, 6, 7, 8, 9] rfl
  have hD : va_D A [(a_mo, .inr (10, [.int ma, .int md, .ref a_mo2, .ref a_mo3, .ref a_mo4, .ref a_mo5, .ref a_mo6, .ref a_mo7, .ref a_mo8, .int mq, .int mz, .ref a_mo11, .int msz, .int mat, .int mpl, .int mfa, .ref a_mo16, .int mth])), (a_mo2, .inl (cI, 1024, .inl mpic)), (a_mo3, .inl (cI, 1024, .inl mgiv)), (a_mo4, .inl (cI, 1024, .inl mkep)), (a_mo5, .inl (cI, 64, .inl mmod)), (a_mo6, .inl (cI, 1024, .inl mcoe)), (a_mo7, .inl (cI, 64, .inl mnmo)), (a_mo8, .inl (cI, 1024, .inl mnco)), (a_mo11, .inl (cI, 8000, .inl mby)), (a_mo16, .inl (cI, 16, .inl mwk))] := hD.sub [0, 1, 2, 3, 4, 5, 6, 7, 8, 9] (by decide) rfl
  refine lv_iadd hx hb dX10_backLine_72 ?_
  refine lv_topi (fun x10_14 ex10_14 => ?_)
  have h := h x10_14 ex10_14
  refine lv_istore (lv' := [(10, .int x10_14), (9, .int x9_12), (8, .int x8_10), (7, .int x7_9), (6, .int x6_8), (5, .int x5_6), (4, .int x4_4), (3, .int x3_2), (0, .ref a_mo), (1, .int v1), (2, .int v2)]) hx hb dX10_backLine_73 hl (by decide) rfl (fun ls hl => ?_)
  refine lv_aload_n hx hb dX10_backLine_75 rfl (lv_at hl 8 rfl) ?_
  refine va_get (D := D) (ci := 10) (v := .ref a_mo16) (C := RX10) (T := TX10) (N := 18) hx hb hts iX10 hown hK hP 0 rfl rfl 16 (by decide) lk44 (fun _ h9 => h9) rfl dX10_backLine_76 ?_
  refine lv_iload_n hx hb dX10_backLine_79 rfl (lv_at hl 9 rfl) ?_
  refine lv_iload hx hb dX10_backLine_80 (lv_at hl 3 rfl) ?_
  refine lv_iload hx hb dX10_backLine_82 (lv_at hl 0 rfl) ?_
  refine lv_iadd hx hb dX10_backLine_84 ?_
  obtain ⟨hi_15, h⟩ := h
  refine va_iast hx hb hK hP hD hS 9 0 rfl rfl hi_15 dX10_backLine_85 (fun H_16 locs hP hD hS => ?_)
  have hP : va_P D vwCl [(a_mo, .inr (10, [.int ma, .int md, .ref a_mo2, .ref a_mo3, .ref a_mo4, .ref a_mo5, .ref a_mo6, .ref a_mo7, .ref a_mo8, .int mq, .int mz, .ref a_mo11, .int msz, .int mat, .int mpl, .int mfa, .ref a_mo16, .int mth])), (a_mo2, .inl (cI, 1024, .inl mpic)), (a_mo3, .inl (cI, 1024, .inl mgiv)), (a_mo4, .inl (cI, 1024, .inl mkep)), (a_mo5, .inl (cI, 64, .inl mmod)), (a_mo6, .inl (cI, 1024, .inl mcoe)), (a_mo7, .inl (cI, 64, .inl mnmo)), (a_mo8, .inl (cI, 1024, .inl mnco)), (a_mo11, .inl (cI, 8000, .inl mby)), (a_mo16, .inl (cI, 16, .inl (jup mwk v1 (x7_9 + x10_14))))] H_16 := hP
  have hD : va_D A [(a_mo, .inr (10, [.int ma, .int md, .ref a_mo2, .ref a_mo3, .ref a_mo4, .ref a_mo5, .ref a_mo6, .ref a_mo7, .ref a_mo8, .int mq, .int mz, .ref a_mo11, .int msz, .int mat, .int mpl, .int mfa, .ref a_mo16, .int mth])), (a_mo2, .inl (cI, 1024, .inl mpic)), (a_mo3, .inl (cI, 1024, .inl mgiv)), (a_mo4, .inl (cI, 1024, .inl mkep)), (a_mo5, .inl (cI, 64, .inl mmod)), (a_mo6, .inl (cI, 1024, .inl mcoe)), (a_mo7, .inl (cI, 64, .inl mnmo)), (a_mo8, .inl (cI, 1024, .inl mnco)), (a_mo11, .inl (cI, 8000, .inl mby)), (a_mo16, .inl (cI, 16, .inl (jup mwk v1 (x7_9 + x10_14))))] := hD
  refine lv_aload_n hx hb dX10_backLine_86 rfl (lv_at hl 8 rfl) ?_
  refine va_get (D := D) (ci := 10) (v := .ref a_mo16) (C := RX10) (T := TX10) (N := 18) hx hb hts iX10 hown hK hP 0 rfl rfl 16 (by decide) lk44 (fun _ h9 => h9) rfl dX10_backLine_87 ?_
  refine lv_iload_n hx hb dX10_backLine_90 rfl (lv_at hl 9 rfl) ?_
  refine lv_iload_n hx hb dX10_backLine_91 rfl (lv_at hl 10 rfl) ?_
  refine lv_iadd hx hb dX10_backLine_92 ?_
  refine lv_iload hx hb dX10_backLine_93 (lv_at hl 2 rfl) ?_
  refine lv_iload hx hb dX10_backLine_95 (lv_at hl 1 rfl) ?_
  refine lv_iadd hx hb dX10_backLine_97 ?_
  obtain ⟨hi_17, h⟩ := h
  refine va_iast hx hb hK hP hD hS 9 0 rfl rfl hi_17 dX10_backLine_98 (fun H_18 locs hP hD hS => ?_)
  have hP : va_P D vwCl [(a_mo, .inr (10, [.int ma, .int md, .ref a_mo2, .ref a_mo3, .ref a_mo4, .ref a_mo5, .ref a_mo6, .ref a_mo7, .ref a_mo8, .int mq, .int mz, .ref a_mo11, .int msz, .int mat, .int mpl, .int mfa, .ref a_mo16, .int mth])), (a_mo2, .inl (cI, 1024, .inl mpic)), (a_mo3, .inl (cI, 1024, .inl mgiv)), (a_mo4, .inl (cI, 1024, .inl mkep)), (a_mo5, .inl (cI, 64, .inl mmod)), (a_mo6, .inl (cI, 1024, .inl mcoe)), (a_mo7, .inl (cI, 64, .inl mnmo)), (a_mo8, .inl (cI, 1024, .inl mnco)), (a_mo11, .inl (cI, 8000, .inl mby)), (a_mo16, .inl (cI, 16, .inl (jup (jup mwk v1 (x7_9 + x10_14)) (v1 + v2) (x8_10 + x9_12))))] H_18 := hP
  have hD : va_D A [(a_mo, .inr (10, [.int ma, .int md, .ref a_mo2, .ref a_mo3, .ref a_mo4, .ref a_mo5, .ref a_mo6, .ref a_mo7, .ref a_mo8, .int mq, .int mz, .ref a_mo11, .int msz, .int mat, .int mpl, .int mfa, .ref a_mo16, .int mth])), (a_mo2, .inl (cI, 1024, .inl mpic)), (a_mo3, .inl (cI, 1024, .inl mgiv)), (a_mo4, .inl (cI, 1024, .inl mkep)), (a_mo5, .inl (cI, 64, .inl mmod)), (a_mo6, .inl (cI, 1024, .inl mcoe)), (a_mo7, .inl (cI, 64, .inl mnmo)), (a_mo8, .inl (cI, 1024, .inl mnco)), (a_mo11, .inl (cI, 8000, .inl mby)), (a_mo16, .inl (cI, 16, .inl (jup (jup mwk v1 (x7_9 + x10_14)) (v1 + v2) (x8_10 + x9_12))))] := hD
  refine lv_aload_n hx hb dX10_backLine_99 rfl (lv_at hl 8 rfl) ?_
  refine va_get (D := D) (ci := 10) (v := .ref a_mo16) (C := RX10) (T := TX10) (N := 18) hx hb hts iX10 hown hK hP 0 rfl rfl 16 (by decide) lk44 (fun _ h9 => h9) rfl dX10_backLine_100 ?_
  refine lv_iload_n hx hb dX10_backLine_103 rfl (lv_at hl 9 rfl) ?_
  refine lv_iconst (v := 2) hx hb dX10_backLine_104 (by decide) ?_
  refine lv_iload_n hx hb dX10_backLine_105 rfl (lv_at hl 10 rfl) ?_
  refine lv_imul hx hb dX10_backLine_106 ?_
  refine lv_iadd hx hb dX10_backLine_107 ?_
  refine lv_iload hx hb dX10_backLine_108 (lv_at hl 2 rfl) ?_
  refine lv_iload hx hb dX10_backLine_110 (lv_at hl 1 rfl) ?_
  refine lv_isub hx hb dX10_backLine_112 ?_
  obtain ⟨hi_19, h⟩ := h
  refine va_iast hx hb hK hP hD hS 9 0 rfl rfl hi_19 dX10_backLine_113 (fun H_20 locs hP hD hS => ?_)
  have hP : va_P D vwCl [(a_mo, .inr (10, [.int ma, .int md, .ref a_mo2, .ref a_mo3, .ref a_mo4, .ref a_mo5, .ref a_mo6, .ref a_mo7, .ref a_mo8, .int mq, .int mz, .ref a_mo11, .int msz, .int mat, .int mpl, .int mfa, .ref a_mo16, .int mth])), (a_mo2, .inl (cI, 1024, .inl mpic)), (a_mo3, .inl (cI, 1024, .inl mgiv)), (a_mo4, .inl (cI, 1024, .inl mkep)), (a_mo5, .inl (cI, 64, .inl mmod)), (a_mo6, .inl (cI, 1024, .inl mcoe)), (a_mo7, .inl (cI, 64, .inl mnmo)), (a_mo8, .inl (cI, 1024, .inl mnco)), (a_mo11, .inl (cI, 8000, .inl mby)), (a_mo16, .inl (cI, 16, .inl (jup (jup (jup mwk v1 (x7_9 + x10_14)) (v1 + v2) (x8_10 + x9_12)) (v1 + (2 * v2)) (x8_10 - x9_12))))] H_20 := hP
  have hD : va_D A [(a_mo, .inr (10, [.int ma, .int md, .ref a_mo2, .ref a_mo3, .ref a_mo4, .ref a_mo5, .ref a_mo6, .ref a_mo7, .ref a_mo8, .int mq, .int mz, .ref a_mo11, .int msz, .int mat, .int mpl, .int mfa, .ref a_mo16, .int mth])), (a_mo2, .inl (cI, 1024, .inl mpic)), (a_mo3, .inl (cI, 1024, .inl mgiv)), (a_mo4, .inl (cI, 1024, .inl mkep)), (a_mo5, .inl (cI, 64, .inl mmod)), (a_mo6, .inl (cI, 1024, .inl mcoe)), (a_mo7, .inl (cI, 64, .inl mnmo)), (a_mo8, .inl (cI, 1024, .inl mnco)), (a_mo11, .inl (cI, 8000, .inl mby)), (a_mo16, .inl (cI, 16, .inl (jup (jup (jup mwk v1 (x7_9 + x10_14)) (v1 + v2) (x8_10 + x9_12)) (v1 + (2 * v2)) (x8_10 - x9_12))))] := hD
  refine lv_aload_n hx hb dX10_backLine_114 rfl (lv_at hl 8 rfl) ?_
  refine va_get (D := D) (ci := 10) (v := .ref a_mo16) (C := RX10) (T := TX10) (N := 18) hx hb hts iX10 hown hK hP 0 rfl rfl 16 (by decide) lk44 (fun _ h9 => h9) rfl dX10_backLine_115 ?_
  refine lv_iload_n hx hb dX10_backLine_118 rfl (lv_at hl 9 rfl) ?_
  refine lv_iconst (v := 3) hx hb dX10_backLine_119 (by decide) ?_
  refine lv_iload_n hx hb dX10_backLine_120 rfl (lv_at hl 10 rfl) ?_
  refine lv_imul hx hb dX10_backLine_121 ?_
  refine lv_iadd hx hb dX10_backLine_122 ?_
  refine lv_iload hx hb dX10_backLine_123 (lv_at hl 3 rfl) ?_
  refine lv_iload hx hb dX10_backLine_125 (lv_at hl 0 rfl) ?_
  refine lv_isub hx hb dX10_backLine_127 ?_
  obtain ⟨hi_21, h⟩ := h
  refine va_iast hx hb hK hP hD hS 9 0 rfl rfl hi_21 dX10_backLine_128 (fun H_22 locs hP hD hS => ?_)
  have hP : va_P D vwCl [(a_mo, .inr (10, [.int ma, .int md, .ref a_mo2, .ref a_mo3, .ref a_mo4, .ref a_mo5, .ref a_mo6, .ref a_mo7, .ref a_mo8, .int mq, .int mz, .ref a_mo11, .int msz, .int mat, .int mpl, .int mfa, .ref a_mo16, .int mth])), (a_mo2, .inl (cI, 1024, .inl mpic)), (a_mo3, .inl (cI, 1024, .inl mgiv)), (a_mo4, .inl (cI, 1024, .inl mkep)), (a_mo5, .inl (cI, 64, .inl mmod)), (a_mo6, .inl (cI, 1024, .inl mcoe)), (a_mo7, .inl (cI, 64, .inl mnmo)), (a_mo8, .inl (cI, 1024, .inl mnco)), (a_mo11, .inl (cI, 8000, .inl mby)), (a_mo16, .inl (cI, 16, .inl (jup (jup (jup (jup mwk v1 (x7_9 + x10_14)) (v1 + v2) (x8_10 + x9_12)) (v1 + (2 * v2)) (x8_10 - x9_12)) (v1 + (3 * v2)) (x7_9 - x10_14))))] H_22 := hP
  have hD : va_D A [(a_mo, .inr (10, [.int ma, .int md, .ref a_mo2, .ref a_mo3, .ref a_mo4, .ref a_mo5, .ref a_mo6, .ref a_mo7, .ref a_mo8, .int mq, .int mz, .ref a_mo11, .int msz, .int mat, .int mpl, .int mfa, .ref a_mo16, .int mth])), (a_mo2, .inl (cI, 1024, .inl mpic)), (a_mo3, .inl (cI, 1024, .inl mgiv)), (a_mo4, .inl (cI, 1024, .inl mkep)), (a_mo5, .inl (cI, 64, .inl mmod)), (a_mo6, .inl (cI, 1024, .inl mcoe)), (a_mo7, .inl (cI, 64, .inl mnmo)), (a_mo8, .inl (cI, 1024, .inl mnco)), (a_mo11, .inl (cI, 8000, .inl mby)), (a_mo16, .inl (cI, 16, .inl (jup (jup (jup (jup mwk v1 (x7_9 + x10_14)) (v1 + v2) (x8_10 + x9_12)) (v1 + (2 * v2)) (x8_10 - x9_12)) (v1 + (3 * v2)) (x7_9 - x10_14))))] := hD
  exact hret (jup (jup (jup (jup mwk v1 (x7_9 + x10_14)) (v1 + v2) (x8_10 + x9_12)) (v1 + (2 * v2)) (x8_10 - x9_12)) (v1 + (3 * v2)) (x7_9 - x10_14)) _ _ _ _ dX10_backLine_129 h hP hD hS
def wp_X10_forthLine (mwk : (Nat → Int32)) (v1 v2 : Int32) (K : (Nat → Int32) → Prop) : Prop := vp_in v1 16 ∧ ∀ x3_2 : Int32, x3_2 = jat mwk v1 → vp_in (v1 + v2) 16 ∧ ∀ x4_4 : Int32, x4_4 = jat mwk (v1 + v2) → vp_in (v1 + (2 * v2)) 16 ∧ ∀ x5_6 : Int32, x5_6 = jat mwk (v1 + (2 * v2)) → vp_in (v1 + (3 * v2)) 16 ∧ ∀ x6_8 : Int32, x6_8 = jat mwk (v1 + (3 * v2)) → ∀ x7_9 : Int32, x7_9 = x3_2 + x6_8 → ∀ x8_10 : Int32, x8_10 = x4_4 + x5_6 → ∀ x9_11 : Int32, x9_11 = x4_4 - x5_6 → ∀ x10_12 : Int32, x10_12 = x3_2 - x6_8 → vp_in v1 16 ∧ vp_in (v1 + v2) 16 ∧ vp_in (v1 + (2 * v2)) 16 ∧ vp_in (v1 + (3 * v2)) 16 ∧ K (jup (jup (jup (jup mwk v1 (x7_9 + x8_10)) (v1 + v2) ((2 * x10_12) + x9_11)) (v1 + (2 * v2)) (x7_9 - x8_10)) (v1 + (3 * v2)) (x10_12 - (2 * x9_11)))
abbrev jw_X10_forthLine : List Cond := .code yX10_forthLine cX10_forthLine 11 none :: jmAll
abbrev rmX10_forthLine : Room := { frames := 0, cells := 0, slots := 0, locals := 0 }
set_option maxHeartbeats 4000000 in
set_option maxRecDepth 100000 in
theorem c_X10_forthLine (l : Launch) (D : va_G) (cI cB : ClassId) (tt : Nat × Nat × Nat) (a_mo a_mo2 a_mo3 a_mo4 a_mo5 a_mo6 a_mo7 a_mo8 a_mo11 a_mo16 : Nat) (sz : Nat) (ma : Int32) (md : Int32) (mq : Int32) (mz : Int32) (msz : Int32) (mat : Int32) (mpl : Int32) (mfa : Int32) (mth : Int32) (mpic : (Nat → Int32)) (mgiv : (Nat → Int32)) (mkep : (Nat → Int32)) (mmod : (Nat → Int32)) (mcoe : (Nat → Int32)) (mnmo : (Nat → Int32)) (mnco : (Nat → Int32)) (mby : (Nat → Int32)) (mwk : (Nat → Int32)) (v1 v2 : Int32) {K : (Nat → Int32) → Prop} (h : wp_X10_forthLine mwk v1 v2 K) : Met l yX10_forthLine jw_X10_forthLine rmX10_forthLine (va_Pc [.ref a_mo, .int v1, .int v2] (jm_Pre D cI cB tt (wd_mo_mo2_mo3_mo4_mo5_mo6_mo7_mo8_mo11_mo16 cI cB a_mo a_mo2 a_mo3 a_mo4 a_mo5 a_mo6 a_mo7 a_mo8 a_mo11 a_mo16 ma md mq mz msz mat mpl mfa mth mpic mgiv mkep mmod mcoe mnmo mnco mby mwk) sz)) (va_Qv (fun (u : (Nat → Int32)) => K u) (jm_Post D cI cB (wd_mo_mo2_mo3_mo4_mo5_mo6_mo7_mo8_mo11_mo16 cI cB a_mo a_mo2 a_mo3 a_mo4 a_mo5 a_mo6 a_mo7 a_mo8 a_mo11 a_mo16 ma md mq mz msz mat mpl mfa mth mpic mgiv mkep mmod mcoe mnmo mnco mby mwk) sz (fun (u : (Nat → Int32)) => wd_mo_mo2_mo3_mo4_mo5_mo6_mo7_mo8_mo11_mo16 cI cB a_mo a_mo2 a_mo3 a_mo4 a_mo5 a_mo6 a_mo7 a_mo8 a_mo11 a_mo16 ma md mq mz msz mat mpl mfa mth mpic mgiv mkep mmod mcoe mnmo mnco mby u)) (va_A (wd_mo_mo2_mo3_mo4_mo5_mo6_mo7_mo8_mo11_mo16 cI cB a_mo a_mo2 a_mo3 a_mo4 a_mo5 a_mo6 a_mo7 a_mo8 a_mo11 a_mo16 ma md mq mz msz mat mpl mfa mth mpic mgiv mkep mmod mcoe mnmo mnco mby mwk) sz)) 0 0 (va_A (wd_mo_mo2_mo3_mo4_mo5_mo6_mo7_mo8_mo11_mo16 cI cB a_mo a_mo2 a_mo3 a_mo4 a_mo5 a_mo6 a_mo7 a_mo8 a_mo11 a_mo16 ma md mq mz msz mat mpl mfa mth mpic mgiv mkep mmod mcoe mnmo mnco mby mwk) sz) := by
  refine jm_metV (by decide +kernel) rfl rfl (Nat.le_of_ble_eq_true rfl) ?_
  intro p e s m args below meth c A Q ls C0 hP hD hl hret
  obtain ⟨hx, hb, hml, hr, hown, hts, hlocks, hA, hK, hE⟩ := C0
  have hS : va_S A s.heap s.heap [] := va_S.rf
  have hl : lv_has ls 11 [(0, .ref a_mo), (1, .int v1), (2, .int v2)] := hl
  unfold wp_X10_forthLine at h
  have hP : va_P D vwCl [(a_mo, .inr (10, [.int ma, .int md, .ref a_mo2, .ref a_mo3, .ref a_mo4, .ref a_mo5, .ref a_mo6, .ref a_mo7, .ref a_mo8, .int mq, .int mz, .ref a_mo11, .int msz, .int mat, .int mpl, .int mfa, .ref a_mo16, .int mth])), (a_mo2, .inl (cI, 1024, .inl mpic)), (a_mo3, .inl (cI, 1024, .inl mgiv)), (a_mo4, .inl (cI, 1024, .inl mkep)), (a_mo5, .inl (cI, 64, .inl mmod)), (a_mo6, .inl (cI, 1024, .inl mcoe)), (a_mo7, .inl (cI, 64, .inl mnmo)), (a_mo8, .inl (cI, 1024, .inl mnco)), (a_mo11, .inl (cI, 8000, .inl mby)), (a_mo16, .inl (cI, 16, .inl mwk))] s.heap := hP
  have hD : va_D A [(a_mo, .inr (10, [.int ma, .int md, .ref a_mo2, .ref a_mo3, .ref a_mo4, .ref a_mo5, .ref a_mo6, .ref a_mo7, .ref a_mo8, .int mq, .int mz, .ref a_mo11, .int msz, .int mat, .int mpl, .int mfa, .ref a_mo16, .int mth])), (a_mo2, .inl (cI, 1024, .inl mpic)), (a_mo3, .inl (cI, 1024, .inl mgiv)), (a_mo4, .inl (cI, 1024, .inl mkep)), (a_mo5, .inl (cI, 64, .inl mmod)), (a_mo6, .inl (cI, 1024, .inl mcoe)), (a_mo7, .inl (cI, 64, .inl mnmo)), (a_mo8, .inl (cI, 1024, .inl mnco)), (a_mo11, .inl (cI, 8000, .inl mby)), (a_mo16, .inl (cI, 16, .inl mwk))] := hD
  have iX10 : ∀ w ∈ wsX100, w ∈ jw_X10_forthLine := fun w h => List.mem_cons_of_mem _ (jm_iX10 w h)
  have lk44 := hts (.fieldLink RX10 44 "IntraMillModel" "work" "[I") (List.mem_cons_of_mem _ mw_750)
  refine lv_aload_n hx hb dX10_forthLine_0 rfl (lv_at hl 0 rfl) ?_
  refine va_get (D := D) (ci := 10) (v := .ref a_mo16) (C := RX10) (T := TX10) (N := 18) hx hb hts iX10 hown hK hP 0 rfl rfl 16 (by decide) lk44 (fun _ h9 => h9) rfl dX10_forthLine_1 ?_
  refine lv_iload_n hx hb dX10_forthLine_4 rfl (lv_at hl 1 rfl) ?_
  obtain ⟨hi_1, h⟩ := h
  refine va_iald hx hb hK hP 9 0 rfl rfl hi_1 dX10_forthLine_5 ?_
  refine lv_topi (fun x3_2 ex3_2 => ?_)
  have h := h x3_2 ex3_2
  refine lv_istore_n (lv' := [(3, .int x3_2), (0, .ref a_mo), (1, .int v1), (2, .int v2)]) hx hb dX10_forthLine_6 rfl hl (by decide) rfl (fun ls hl => ?_)
  refine lv_aload_n hx hb dX10_forthLine_7 rfl (lv_at hl 1 rfl) ?_
  refine va_get (D := D) (ci := 10) (v := .ref a_mo16) (C := RX10) (T := TX10) (N := 18) hx hb hts iX10 hown hK hP 0 rfl rfl 16 (by decide) lk44 (fun _ h9 => h9) rfl dX10_forthLine_8 ?_
  refine lv_iload_n hx hb dX10_forthLine_11 rfl (lv_at hl 2 rfl) ?_
  refine lv_iload_n hx hb dX10_forthLine_12 rfl (lv_at hl 3 rfl) ?_
  refine lv_iadd hx hb dX10_forthLine_13 ?_
  obtain ⟨hi_3, h⟩ := h
  refine va_iald hx hb hK hP 9 0 rfl rfl hi_3 dX10_forthLine_14 ?_
  refine lv_topi (fun x4_4 ex4_4 => ?_)
  have h := h x4_4 ex4_4
  refine lv_istore (lv' := [(4, .int x4_4), (3, .int x3_2), (0, .ref a_mo), (1, .int v1), (2, .int v2)]) hx hb dX10_forthLine_15 hl (by decide) rfl (fun ls hl => ?_)
  refine lv_aload_n hx hb dX10_forthLine_17 rfl (lv_at hl 2 rfl) ?_
  refine va_get (D := D) (ci := 10) (v := .ref a_mo16) (C := RX10) (T := TX10) (N := 18) hx hb hts iX10 hown hK hP 0 rfl rfl 16 (by decide) lk44 (fun _ h9 => h9) rfl dX10_forthLine_18 ?_
  refine lv_iload_n hx hb dX10_forthLine_21 rfl (lv_at hl 3 rfl) ?_
  refine lv_iconst (v := 2) hx hb dX10_forthLine_22 (by decide) ?_
  refine lv_iload_n hx hb dX10_forthLine_23 rfl (lv_at hl 4 rfl) ?_
  refine lv_imul hx hb dX10_forthLine_24 ?_
  refine lv_iadd hx hb dX10_forthLine_25 ?_
  obtain ⟨hi_5, h⟩ := h
  refine va_iald hx hb hK hP 9 0 rfl rfl hi_5 dX10_forthLine_26 ?_
  refine lv_topi (fun x5_6 ex5_6 => ?_)
  have h := h x5_6 ex5_6
  refine lv_istore (lv' := [(5, .int x5_6), (4, .int x4_4), (3, .int x3_2), (0, .ref a_mo), (1, .int v1), (2, .int v2)]) hx hb dX10_forthLine_27 hl (by decide) rfl (fun ls hl => ?_)
  refine lv_aload_n hx hb dX10_forthLine_29 rfl (lv_at hl 3 rfl) ?_
  refine va_get (D := D) (ci := 10) (v := .ref a_mo16) (C := RX10) (T := TX10) (N := 18) hx hb hts iX10 hown hK hP 0 rfl rfl 16 (by decide) lk44 (fun _ h9 => h9) rfl dX10_forthLine_30 ?_
  refine lv_iload_n hx hb dX10_forthLine_33 rfl (lv_at hl 4 rfl) ?_
  refine lv_iconst (v := 3) hx hb dX10_forthLine_34 (by decide) ?_
  refine lv_iload_n hx hb dX10_forthLine_35 rfl (lv_at hl 5 rfl) ?_
  refine lv_imul hx hb dX10_forthLine_36 ?_
  refine lv_iadd hx hb dX10_forthLine_37 ?_
  obtain ⟨hi_7, h⟩ := h
  refine va_iald hx hb hK hP 9 0 rfl rfl hi_7 dX10_forthLine_38 ?_
  refine lv_topi (fun x6_8 ex6_8 => ?_)
  have h := h x6_8 ex6_8
  refine lv_istore (lv' := [(6, .int x6_8), (5, .int x5_6), (4, .int x4_4), (3, .int x3_2), (0, .ref a_mo), (1, .int v1), (2, .int v2)]) hx hb dX10_forthLine_39 hl (by decide) rfl (fun ls hl => ?_)
  refine lv_iload_n hx hb dX10_forthLine_41 rfl (lv_at hl 3 rfl) ?_
  refine lv_iload hx hb dX10_forthLine_42 (lv_at hl 0 rfl) ?_
  refine lv_iadd hx hb dX10_forthLine_44 ?_
  refine lv_topi (fun x7_9 ex7_9 => ?_)
  have h := h x7_9 ex7_9
  refine lv_istore (lv' := [(7, .int x7_9), (6, .int x6_8), (5, .int x5_6), (4, .int x4_4), (3, .int x3_2), (0, .ref a_mo), (1, .int v1), (2, .int v2)]) hx hb dX10_forthLine_45 hl (by decide) rfl (fun ls hl => ?_)
  refine lv_iload hx hb dX10_forthLine_47 (lv_at hl 3 rfl) ?_
  refine lv_iload hx hb dX10_forthLine_49 (lv_at hl 2 rfl) ?_
  refine lv_iadd hx hb dX10_forthLine_51 ?_
  refine lv_topi (fun x8_10 ex8_10 => ?_)
  have h := h x8_10 ex8_10
  refine lv_istore (lv' := [(8, .int x8_10), (7, .int x7_9), (6, .int x6_8), (5, .int x5_6), (4, .int x4_4), (3, .int x3_2), (0, .ref a_mo), (1, .int v1), (2, .int v2)]) hx hb dX10_forthLine_52 hl (by decide) rfl (fun ls hl => ?_)
  refine lv_iload hx hb dX10_forthLine_54 (lv_at hl 4 rfl) ?_
  refine lv_iload hx hb dX10_forthLine_56 (lv_at hl 3 rfl) ?_
  refine lv_isub hx hb dX10_forthLine_58 ?_
  refine lv_topi (fun x9_11 ex9_11 => ?_)
  have h := h x9_11 ex9_11
  refine lv_istore (lv' := [(9, .int x9_11), (8, .int x8_10), (7, .int x7_9), (6, .int x6_8), (5, .int x5_6), (4, .int x4_4), (3, .int x3_2), (0, .ref a_mo), (1, .int v1), (2, .int v2)]) hx hb dX10_forthLine_59 hl (by decide) rfl (fun ls hl => ?_)
  refine lv_iload_n hx hb dX10_forthLine_61 rfl (lv_at hl 6 rfl) ?_
  refine lv_iload hx hb dX10_forthLine_62 (lv_at hl 3 rfl) ?_
  refine lv_isub hx hb dX10_forthLine_64 ?_
  refine lv_topi (fun x10_12 ex10_12 => ?_)
  have h := h x10_12 ex10_12
  refine lv_istore (lv' := [(10, .int x10_12), (9, .int x9_11), (8, .int x8_10), (7, .int x7_9), (6, .int x6_8), (5, .int x5_6), (4, .int x4_4), (3, .int x3_2), (0, .ref a_mo), (1, .int v1), (2, .int v2)]) hx hb dX10_forthLine_65 hl (by decide) rfl (fun ls hl => ?_)
  refine lv_aload_n hx hb dX10_forthLine_67 rfl (lv_at hl 8 rfl) ?_
  refine va_get (D := D) (ci := 10) (v := .ref a_mo16) (C := RX10) (T := TX10) (N := 18) hx hb hts iX10 hown hK hP 0 rfl rfl 16 (by decide) lk44 (fun _ h9 => h9) rfl dX10_forthLine_68 ?_
  refine lv_iload_n hx hb dX10_forthLine_71 rfl (lv_at hl 9 rfl) ?_
  refine lv_iload hx hb dX10_forthLine_72 (lv_at hl 3 rfl) ?_
  refine lv_iload hx hb dX10_forthLine_74 (lv_at hl 2 rfl) ?_
  refine lv_iadd hx hb dX10_forthLine_76 ?_
  obtain ⟨hi_13, h⟩ := h
  refine va_iast hx hb hK hP hD hS 9 0 rfl rfl hi_13 dX10_forthLine_77 (fun H_14 locs hP hD hS => ?_)
  have hP : va_P D vwCl [(a_mo, .inr (10, [.int ma, .int md, .ref a_mo2, .ref a_mo3, .ref a_mo4, .ref a_mo5, .ref a_mo6, .ref a_mo7, .ref a_mo8, .int mq, .int mz, .ref a_mo11, .int msz, .int mat, .int mpl, .int mfa, .ref a_mo16, .int mth])), (a_mo2, .inl (cI, 1024, .inl mpic)), (a_mo3, .inl (cI, 1024, .inl mgiv)), (a_mo4, .inl (cI, 1024, .inl mkep)), (a_mo5, .inl (cI, 64, .inl mmod)), (a_mo6, .inl (cI, 1024, .inl mcoe)), (a_mo7, .inl (cI, 64, .inl mnmo)), (a_mo8, .inl (cI, 1024, .inl mnco)), (a_mo11, .inl (cI, 8000, .inl mby)), (a_mo16, .inl (cI, 16, .inl (jup mwk v1 (x7_9 + x8_10))))] H_14 := hP
  have hD : va_D A [(a_mo, .inr (10, [.int ma, .int md, .ref a_mo2, .ref a_mo3, .ref a_mo4, .ref a_mo5, .ref a_mo6, .ref a_mo7, .ref a_mo8, .int mq, .int mz, .ref a_mo11, .int msz, .int mat, .int mpl, .int mfa, .ref a_mo16, .int mth])), (a_mo2, .inl (cI, 1024, .inl mpic)), (a_mo3, .inl (cI, 1024, .inl mgiv)), (a_mo4, .inl (cI, 1024, .inl mkep)), (a_mo5, .inl (cI, 64, .inl mmod)), (a_mo6, .inl (cI, 1024, .inl mcoe)), (a_mo7, .inl (cI, 64, .inl mnmo)), (a_mo8, .inl (cI, 1024, .inl mnco)), (a_mo11, .inl (cI, 8000, .inl mby)), (a_mo16, .inl (cI, 16, .inl (jup mwk v1 (x7_9 + x8_10))))] := hD
  refine lv_aload_n hx hb dX10_forthLine_78 rfl (lv_at hl 8 rfl) ?_
  refine va_get (D := D) (ci := 10) (v := .ref a_mo16) (C := RX10) (T := TX10) (N := 18) hx hb hts iX10 hown hK hP 0 rfl rfl 16 (by decide) lk44 (fun _ h9 => h9) rfl dX10_forthLine_79 ?_
  refine lv_iload_n hx hb dX10_forthLine_82 rfl (lv_at hl 9 rfl) ?_
  refine lv_iload_n hx hb dX10_forthLine_83 rfl (lv_at hl 10 rfl) ?_
  refine lv_iadd hx hb dX10_forthLine_84 ?_
  refine lv_iconst (v := 2) hx hb dX10_forthLine_85 (by decide) ?_
  refine lv_iload hx hb dX10_forthLine_86 (lv_at hl 0 rfl) ?_
  refine lv_imul hx hb dX10_forthLine_88 ?_
  refine lv_iload hx hb dX10_forthLine_89 (lv_at hl 1 rfl) ?_
  refine lv_iadd hx hb dX10_forthLine_91 ?_
  obtain ⟨hi_15, h⟩ := h
  refine va_iast hx hb hK hP hD hS 9 0 rfl rfl hi_15 dX10_forthLine_92 (fun H_16 locs hP hD hS => ?_)
  have hP : va_P D vwCl [(a_mo, .inr (10, [.int ma, .int md, .ref a_mo2, .ref a_mo3, .ref a_mo4, .ref a_mo5, .ref a_mo6, .ref a_mo7, .ref a_mo8, .int mq, .int mz, .ref a_mo11, .int msz, .int mat, .int mpl, .int mfa, .ref a_mo16, .int mth])), (a_mo2, .inl (cI, 1024, .inl mpic)), (a_mo3, .inl (cI, 1024, .inl mgiv)), (a_mo4, .inl (cI, 1024, .inl mkep)), (a_mo5, .inl (cI, 64, .inl mmod)), (a_mo6, .inl (cI, 1024, .inl mcoe)), (a_mo7, .inl (cI, 64, .inl mnmo)), (a_mo8, .inl (cI, 1024, .inl mnco)), (a_mo11, .inl (cI, 8000, .inl mby)), (a_mo16, .inl (cI, 16, .inl (jup (jup mwk v1 (x7_9 + x8_10)) (v1 + v2) ((2 * x10_12) + x9_11))))] H_16 := hP
  have hD : va_D A [(a_mo, .inr (10, [.int ma, .int md, .ref a_mo2, .ref a_mo3, .ref a_mo4, .ref a_mo5, .ref a_mo6, .ref a_mo7, .ref a_mo8, .int mq, .int mz, .ref a_mo11, .int msz, .int mat, .int mpl, .int mfa, .ref a_mo16, .int mth])), (a_mo2, .inl (cI, 1024, .inl mpic)), (a_mo3, .inl (cI, 1024, .inl mgiv)), (a_mo4, .inl (cI, 1024, .inl mkep)), (a_mo5, .inl (cI, 64, .inl mmod)), (a_mo6, .inl (cI, 1024, .inl mcoe)), (a_mo7, .inl (cI, 64, .inl mnmo)), (a_mo8, .inl (cI, 1024, .inl mnco)), (a_mo11, .inl (cI, 8000, .inl mby)), (a_mo16, .inl (cI, 16, .inl (jup (jup mwk v1 (x7_9 + x8_10)) (v1 + v2) ((2 * x10_12) + x9_11))))] := hD
  refine lv_aload_n hx hb dX10_forthLine_93 rfl (lv_at hl 8 rfl) ?_
  refine va_get (D := D) (ci := 10) (v := .ref a_mo16) (C := RX10) (T := TX10) (N := 18) hx hb hts iX10 hown hK hP 0 rfl rfl 16 (by decide) lk44 (fun _ h9 => h9) rfl dX10_forthLine_94 ?_
  refine lv_iload_n hx hb dX10_forthLine_97 rfl (lv_at hl 9 rfl) ?_
  refine lv_iconst (v := 2) hx hb dX10_forthLine_98 (by decide) ?_
  refine lv_iload_n hx hb dX10_forthLine_99 rfl (lv_at hl 10 rfl) ?_
  refine lv_imul hx hb dX10_forthLine_100 ?_
  refine lv_iadd hx hb dX10_forthLine_101 ?_
  refine lv_iload hx hb dX10_forthLine_102 (lv_at hl 3 rfl) ?_
  refine lv_iload hx hb dX10_forthLine_104 (lv_at hl 2 rfl) ?_
  refine lv_isub hx hb dX10_forthLine_106 ?_
  obtain ⟨hi_17, h⟩ := h
  refine va_iast hx hb hK hP hD hS 9 0 rfl rfl hi_17 dX10_forthLine_107 (fun H_18 locs hP hD hS => ?_)
  have hP : va_P D vwCl [(a_mo, .inr (10, [.int ma, .int md, .ref a_mo2, .ref a_mo3, .ref a_mo4, .ref a_mo5, .ref a_mo6, .ref a_mo7, .ref a_mo8, .int mq, .int mz, .ref a_mo11, .int msz, .int mat, .int mpl, .int mfa, .ref a_mo16, .int mth])), (a_mo2, .inl (cI, 1024, .inl mpic)), (a_mo3, .inl (cI, 1024, .inl mgiv)), (a_mo4, .inl (cI, 1024, .inl mkep)), (a_mo5, .inl (cI, 64, .inl mmod)), (a_mo6, .inl (cI, 1024, .inl mcoe)), (a_mo7, .inl (cI, 64, .inl mnmo)), (a_mo8, .inl (cI, 1024, .inl mnco)), (a_mo11, .inl (cI, 8000, .inl mby)), (a_mo16, .inl (cI, 16, .inl (jup (jup (jup mwk v1 (x7_9 + x8_10)) (v1 + v2) ((2 * x10_12) + x9_11)) (v1 + (2 * v2)) (x7_9 - x8_10))))] H_18 := hP
  have hD : va_D A [(a_mo, .inr (10, [.int ma, .int md, .ref a_mo2, .ref a_mo3, .ref a_mo4, .ref a_mo5, .ref a_mo6, .ref a_mo7, .ref a_mo8, .int mq, .int mz, .ref a_mo11, .int msz, .int mat, .int mpl, .int mfa, .ref a_mo16, .int mth])), (a_mo2, .inl (cI, 1024, .inl mpic)), (a_mo3, .inl (cI, 1024, .inl mgiv)), (a_mo4, .inl (cI, 1024, .inl mkep)), (a_mo5, .inl (cI, 64, .inl mmod)), (a_mo6, .inl (cI, 1024, .inl mcoe)), (a_mo7, .inl (cI, 64, .inl mnmo)), (a_mo8, .inl (cI, 1024, .inl mnco)), (a_mo11, .inl (cI, 8000, .inl mby)), (a_mo16, .inl (cI, 16, .inl (jup (jup (jup mwk v1 (x7_9 + x8_10)) (v1 + v2) ((2 * x10_12) + x9_11)) (v1 + (2 * v2)) (x7_9 - x8_10))))] := hD
  refine lv_aload_n hx hb dX10_forthLine_108 rfl (lv_at hl 8 rfl) ?_
  refine va_get (D := D) (ci := 10) (v := .ref a_mo16) (C := RX10) (T := TX10) (N := 18) hx hb hts iX10 hown hK hP 0 rfl rfl 16 (by decide) lk44 (fun _ h9 => h9) rfl dX10_forthLine_109 ?_
  refine lv_iload_n hx hb dX10_forthLine_112 rfl (lv_at hl 9 rfl) ?_
  refine lv_iconst (v := 3) hx hb dX10_forthLine_113 (by decide) ?_
  refine lv_iload_n hx hb dX10_forthLine_114 rfl (lv_at hl 10 rfl) ?_
  refine lv_imul hx hb dX10_forthLine_115 ?_
  refine lv_iadd hx hb dX10_forthLine_116 ?_
  refine lv_iload hx hb dX10_forthLine_117 (lv_at hl 0 rfl) ?_
  refine lv_iconst (v := 2) hx hb dX10_forthLine_119 (by decide) ?_
  refine lv_iload hx hb dX10_forthLine_120 (lv_at hl 1 rfl) ?_
  refine lv_imul hx hb dX10_forthLine_122 ?_
  refine lv_isub hx hb dX10_forthLine_123 ?_
  obtain ⟨hi_19, h⟩ := h
  refine va_iast hx hb hK hP hD hS 9 0 rfl rfl hi_19 dX10_forthLine_124 (fun H_20 locs hP hD hS => ?_)
  have hP : va_P D vwCl [(a_mo, .inr (10, [.int ma, .int md, .ref a_mo2, .ref a_mo3, .ref a_mo4, .ref a_mo5, .ref a_mo6, .ref a_mo7, .ref a_mo8, .int mq, .int mz, .ref a_mo11, .int msz, .int mat, .int mpl, .int mfa, .ref a_mo16, .int mth])), (a_mo2, .inl (cI, 1024, .inl mpic)), (a_mo3, .inl (cI, 1024, .inl mgiv)), (a_mo4, .inl (cI, 1024, .inl mkep)), (a_mo5, .inl (cI, 64, .inl mmod)), (a_mo6, .inl (cI, 1024, .inl mcoe)), (a_mo7, .inl (cI, 64, .inl mnmo)), (a_mo8, .inl (cI, 1024, .inl mnco)), (a_mo11, .inl (cI, 8000, .inl mby)), (a_mo16, .inl (cI, 16, .inl (jup (jup (jup (jup mwk v1 (x7_9 + x8_10)) (v1 + v2) ((2 * x10_12) + x9_11)) (v1 + (2 * v2)) (x7_9 - x8_10)) (v1 + (3 * v2)) (x10_12 - (2 * x9_11)))))] H_20 := hP
  have hD : va_D A [(a_mo, .inr (10, [.int ma, .int md, .ref a_mo2, .ref a_mo3, .ref a_mo4, .ref a_mo5, .ref a_mo6, .ref a_mo7, .ref a_mo8, .int mq, .int mz, .ref a_mo11, .int msz, .int mat, .int mpl, .int mfa, .ref a_mo16, .int mth])), (a_mo2, .inl (cI, 1024, .inl mpic)), (a_mo3, .inl (cI, 1024, .inl mgiv)), (a_mo4, .inl (cI, 1024, .inl mkep)), (a_mo5, .inl (cI, 64, .inl mmod)), (a_mo6, .inl (cI, 1024, .inl mcoe)), (a_mo7, .inl (cI, 64, .inl mnmo)), (a_mo8, .inl (cI, 1024, .inl mnco)), (a_mo11, .inl (cI, 8000, .inl mby)), (a_mo16, .inl (cI, 16, .inl (jup (jup (jup (jup mwk v1 (x7_9 + x8_10)) (v1 + v2) ((2 * x10_12) + x9_11)) (v1 + (2 * v2)) (x7_9 - x8_10)) (v1 + (3 * v2)) (x10_12 - (2 * x9_11)))))] := hD
  exact hret (jup (jup (jup (jup mwk v1 (x7_9 + x8_10)) (v1 + v2) ((2 * x10_12) + x9_11)) (v1 + (2 * v2)) (x7_9 - x8_10)) (v1 + (3 * v2)) (x10_12 - (2 * x9_11))) _ _ _ _ dX10_forthLine_125 h hP hD hS
def wl_X10_placeOf_6 (K : Int32 → Prop) (X : Int32 → Int32 → Prop) : Nat → Int32 → Int32 → Prop
  | 0, _, _ => False
  | n + 1, v2, v3 => jn1 (fun (t0_1 : Int32) => ((v3 ≤ t0_1 → X v2 v3) ∧ (¬ v3 ≤ t0_1 → jn1 (fun (t0_3 : Int32) => ∀ x3_4 : Int32, x3_4 = v3 - (t0_3 + 1) → ∀ x2_5 : Int32, x2_5 = v2 + 1 → wl_X10_placeOf_6  K X n x2_5 x3_4) (fun J_3 => ((4 ≤ v2 → J_3 (6 - v2)) ∧ (¬ 4 ≤ v2 → J_3 v2)))))) (fun J_1 => ((4 ≤ v2 → J_1 (6 - v2)) ∧ (¬ 4 ≤ v2 → J_1 v2)))
def wp_X10_placeOf (v0 : Int32) (K : Int32 → Prop) : Prop := ∃ k : Nat, wl_X10_placeOf_6  K (fun (v2_8 : Int32) (v3_8 : Int32) => jn1 (fun (t0_9 : Int32) => jn1 (fun (t0_10 : Int32) => jn1 (fun (t0_11 : Int32) => K (t0_11 + (4 * (v2_8 - t0_11)))) (fun J_11 => (((jrem v2_8 2) = 1 → J_11 (t0_10 - v3_8)) ∧ (¬ (jrem v2_8 2) = 1 → J_11 (t0_9 + v3_8))))) (fun J_10 => ((4 ≤ v2_8 → J_10 3) ∧ (¬ 4 ≤ v2_8 → J_10 v2_8)))) (fun J_9 => ((4 ≤ v2_8 → J_9 (v2_8 - 3)) ∧ (¬ 4 ≤ v2_8 → J_9 0)))) k 0 v0
abbrev jw_X10_placeOf : List Cond := .code yX10_placeOf cX10_placeOf 6 (some .int) :: jmAll
abbrev rmX10_placeOf : Room := { frames := 0, cells := 0, slots := 0, locals := 0 }
set_option maxHeartbeats 4000000 in
set_option maxRecDepth 100000 in
theorem c_X10_placeOf (l : Launch) (D : va_G) (cI cB : ClassId) (tt : Nat × Nat × Nat) (sz : Nat) (v0 : Int32) {K : Int32 → Prop} (h : wp_X10_placeOf v0 K) : Met l yX10_placeOf jw_X10_placeOf rmX10_placeOf (va_Pc [.int v0] (jm_Pre D cI cB tt [] sz)) (va_Qi (fun (r : Int32) (u : Unit) => K r) (jm_Post D cI cB [] sz (fun (_ : Unit) => [])) (va_A [] sz)) 0 0 (va_A [] sz) := by
  refine jm_metI (by decide +kernel) rfl rfl (Nat.le_of_ble_eq_true rfl) ?_
  intro p e s m args below meth c A Q ls C0 hP hD hl hret
  obtain ⟨hx, hb, hml, hr, hown, hts, hlocks, hA, hK, hE⟩ := C0
  have hS : va_S A s.heap s.heap [] := va_S.rf
  have hl : lv_has ls 6 [(0, .int v0)] := hl
  unfold wp_X10_placeOf at h
  have hP : va_P D vwCl [] s.heap := hP
  have hD : va_D A [] := hD
  refine lv_iconst (v := 0) hx hb dX10_placeOf_0 (by decide) ?_
  refine lv_istore_n (lv' := [(1, .int 0), (0, .int v0)]) hx hb dX10_placeOf_1 rfl hl (by decide) rfl (fun ls hl => ?_)
  refine lv_iconst (v := 0) hx hb dX10_placeOf_2 (by decide) ?_
  refine lv_istore_n (lv' := [(2, .int 0), (1, .int 0), (0, .int v0)]) hx hb dX10_placeOf_3 rfl hl (by decide) rfl (fun ls hl => ?_)
  refine lv_iload_n hx hb dX10_placeOf_4 rfl (lv_at hl 2 rfl) ?_
  refine lv_istore_n (lv' := [(3, .int v0), (2, .int 0), (1, .int 0), (0, .int v0)]) hx hb dX10_placeOf_5 rfl hl (by decide) rfl (fun ls hl => ?_)
  obtain ⟨n_8, h⟩ := h
  have hL_8 : ∀ (v0 : Int32) (v1 : Int32) (X : Int32 → Int32 → Prop), (∀ (v2 : Int32) (v3 : Int32), ∀ (H : Heap) (locs : List Loc) (ls : Array Slot), X v2 v3 → va_P D vwCl [] H → va_D A [] → va_S A s.heap H locs → lv_has ls 6 [(0, .int v0), (1, .int v1), (2, .int v2), (3, .int v3)] → W p l e rmX10_placeOf s m args below meth c H locs 0 0 Q (F0 m 47 ls [])) → ∀ (n : Nat) (v2 : Int32) (v3 : Int32), ∀ (H : Heap) (locs : List Loc) (ls : Array Slot), wl_X10_placeOf_6  K X n v2 v3 → va_P D vwCl [] H → va_D A [] → va_S A s.heap H locs → lv_has ls 6 [(0, .int v0), (1, .int v1), (2, .int v2), (3, .int v3)] → W p l e rmX10_placeOf s m args below meth c H locs 0 0 Q (F0 m 6 ls []) := by
    intro v0 v1 X hX n
    induction n with
    | zero => intro v2 v3 H locs ls h; rw [wl_X10_placeOf_6] at h; exact h.elim
    | succ n ih =>
      intro v2 v3 H locs ls h hP hD hS hl
      rw [wl_X10_placeOf_6] at h
      refine lv_iload_n hx hb dX10_placeOf_6 rfl (lv_at hl 3 rfl) ?_
      refine lv_iload_n hx hb dX10_placeOf_7 rfl (lv_at hl 2 rfl) ?_
      refine lv_iconst (v := 4) hx hb dX10_placeOf_8 (by decide) ?_
      obtain ⟨J_1, hj_1, h⟩ := jn1_out h
      have hJ_1 : ∀ (t0_1 : Int32), ∀ (H : Heap) (locs : List Loc) (ls : Array Slot), J_1 t0_1 → va_P D vwCl [] H → va_D A [] → va_S A s.heap H locs → lv_has ls 6 [(0, .int v0), (1, .int v1), (2, .int v2), (3, .int v3)] → W p l e rmX10_placeOf s m args below meth c H locs 0 0 Q (F0 m 20 ls [.int t0_1, .int v3]) := by
        intro t0_1 H locs ls h hP hD hS hl
        have h := hj_1 t0_1 h
        refine lv_icmp_le (tgt := 47) hx hb dX10_placeOf_20 (by decide) (fun c_2 => ?_) (fun c_2 => ?_)
        · have h := h.1 c_2
          exact hX v2 v3 H _ _ h hP hD hS (lv_sub hl [0, 1, 2, 3] rfl)
        · have h := h.2 c_2
          refine lv_iload_n hx hb dX10_placeOf_23 rfl (lv_at hl 3 rfl) ?_
          refine lv_iload_n hx hb dX10_placeOf_24 rfl (lv_at hl 2 rfl) ?_
          refine lv_iconst (v := 4) hx hb dX10_placeOf_25 (by decide) ?_
          obtain ⟨J_3, hj_3, h⟩ := jn1_out h
          have hJ_3 : ∀ (t0_3 : Int32), ∀ (H : Heap) (locs : List Loc) (ls : Array Slot), J_3 t0_3 → va_P D vwCl [] H → va_D A [] → va_S A s.heap H locs → lv_has ls 6 [(0, .int v0), (1, .int v1), (2, .int v2), (3, .int v3)] → W p l e rmX10_placeOf s m args below meth c H locs 0 0 Q (F0 m 37 ls [.int t0_3, .int v3]) := by
            intro t0_3 H locs ls h hP hD hS hl
            have h := hj_3 t0_3 h
            refine lv_iconst (v := 1) hx hb dX10_placeOf_37 (by decide) ?_
            refine lv_iadd hx hb dX10_placeOf_38 ?_
            refine lv_isub hx hb dX10_placeOf_39 ?_
            refine lv_topi (fun x3_4 ex3_4 => ?_)
            have h := h x3_4 ex3_4
            refine lv_istore_n (lv' := [(3, .int x3_4), (0, .int v0), (1, .int v1), (2, .int v2)]) hx hb dX10_placeOf_40 rfl hl (by decide) rfl (fun ls hl => ?_)
            obtain ⟨x2_5, ex2_5⟩ : ∃ y : Int32, y = v2 + 1 := ⟨_, rfl⟩
            have h := h x2_5 ex2_5
            refine lv_iinc (v := x2_5) (lv' := [(2, .int x2_5), (3, .int x3_4), (0, .int v0), (1, .int v1)]) hx hb dX10_placeOf_41 hl (k := 3) rfl (by rw [ex2_5]; rfl) (by decide) rfl (fun ls hl => ?_)
            refine lv_goto (tgt := 6) hx hb dX10_placeOf_44 (by decide) ?_
            exact ih x2_5 x3_4 H _ _ h hP hD hS (lv_sub hl [2, 3, 0, 1] rfl)
          refine lv_icmp_ge (tgt := 33) hx hb dX10_placeOf_26 (by decide) (fun c_6 => ?_) (fun c_6 => ?_)
          · have h := h.1 c_6
            refine lv_bipush (v := 6) hx hb dX10_placeOf_33 (by decide) ?_
            refine lv_iload_n hx hb dX10_placeOf_35 rfl (lv_at hl 2 rfl) ?_
            refine lv_isub hx hb dX10_placeOf_36 ?_
            exact hJ_3 (6 - v2) H _ _ h hP hD hS (lv_sub hl [0, 1, 2, 3] rfl)
          · have h := h.2 c_6
            refine lv_iload_n hx hb dX10_placeOf_29 rfl (lv_at hl 2 rfl) ?_
            refine lv_goto (tgt := 37) hx hb dX10_placeOf_30 (by decide) ?_
            exact hJ_3 v2 H _ _ h hP hD hS (lv_sub hl [0, 1, 2, 3] rfl)
      refine lv_icmp_ge (tgt := 16) hx hb dX10_placeOf_9 (by decide) (fun c_7 => ?_) (fun c_7 => ?_)
      · have h := h.1 c_7
        refine lv_bipush (v := 6) hx hb dX10_placeOf_16 (by decide) ?_
        refine lv_iload_n hx hb dX10_placeOf_18 rfl (lv_at hl 2 rfl) ?_
        refine lv_isub hx hb dX10_placeOf_19 ?_
        exact hJ_1 (6 - v2) H _ _ h hP hD hS (lv_sub hl [0, 1, 2, 3] rfl)
      · have h := h.2 c_7
        refine lv_iload_n hx hb dX10_placeOf_12 rfl (lv_at hl 2 rfl) ?_
        refine lv_goto (tgt := 20) hx hb dX10_placeOf_13 (by decide) ?_
        exact hJ_1 v2 H _ _ h hP hD hS (lv_sub hl [0, 1, 2, 3] rfl)
  refine hL_8 v0 0 _ ?_ n_8 0 v0 s.heap _ _ h hP hD hS (lv_sub hl [3, 2, 1, 0] rfl)
  intro v2_8 v3_8 H locs ls h hP hD hS hl
  refine lv_iload_n hx hb dX10_placeOf_47 rfl (lv_at hl 2 rfl) ?_
  refine lv_iconst (v := 4) hx hb dX10_placeOf_48 (by decide) ?_
  obtain ⟨J_9, hj_9, h⟩ := jn1_out h
  have hJ_9 : ∀ (t0_9 : Int32), ∀ (H : Heap) (locs : List Loc) (ls : Array Slot), J_9 t0_9 → va_P D vwCl [] H → va_D A [] → va_S A s.heap H locs → lv_has ls 6 [(0, .int v0), (1, .int 0), (2, .int v2_8), (3, .int v3_8)] → W p l e rmX10_placeOf s m args below meth c H locs 0 0 Q (F0 m 59 ls [.int t0_9]) := by
    intro t0_9 H locs ls h hP hD hS hl
    have h := hj_9 t0_9 h
    refine lv_istore (lv' := [(4, .int t0_9), (0, .int v0), (1, .int 0), (2, .int v2_8), (3, .int v3_8)]) hx hb dX10_placeOf_59 hl (by decide) rfl (fun ls hl => ?_)
    refine lv_iload_n hx hb dX10_placeOf_61 rfl (lv_at hl 3 rfl) ?_
    refine lv_iconst (v := 4) hx hb dX10_placeOf_62 (by decide) ?_
    obtain ⟨J_10, hj_10, h⟩ := jn1_out h
    have hJ_10 : ∀ (t0_10 : Int32), ∀ (H : Heap) (locs : List Loc) (ls : Array Slot), J_10 t0_10 → va_P D vwCl [] H → va_D A [] → va_S A s.heap H locs → lv_has ls 6 [(0, .int v0), (1, .int 0), (2, .int v2_8), (3, .int v3_8), (4, .int t0_9)] → W p l e rmX10_placeOf s m args below meth c H locs 0 0 Q (F0 m 71 ls [.int t0_10]) := by
      intro t0_10 H locs ls h hP hD hS hl
      have h := hj_10 t0_10 h
      refine lv_istore (lv' := [(5, .int t0_10), (0, .int v0), (1, .int 0), (2, .int v2_8), (3, .int v3_8), (4, .int t0_9)]) hx hb dX10_placeOf_71 hl (by decide) rfl (fun ls hl => ?_)
      refine lv_iload_n hx hb dX10_placeOf_73 rfl (lv_at hl 3 rfl) ?_
      refine lv_iconst (v := 2) hx hb dX10_placeOf_74 (by decide) ?_
      refine lv_irem hx hb dX10_placeOf_75 (by decide) ?_
      refine lv_iconst (v := 1) hx hb dX10_placeOf_76 (by decide) ?_
      obtain ⟨J_11, hj_11, h⟩ := jn1_out h
      have hJ_11 : ∀ (t0_11 : Int32), ∀ (H : Heap) (locs : List Loc) (ls : Array Slot), J_11 t0_11 → va_P D vwCl [] H → va_D A [] → va_S A s.heap H locs → lv_has ls 6 [(0, .int v0), (1, .int 0), (2, .int v2_8), (3, .int v3_8), (4, .int t0_9), (5, .int t0_10)] → W p l e rmX10_placeOf s m args below meth c H locs 0 0 Q (F0 m 91 ls [.int t0_11]) := by
        intro t0_11 H locs ls h hP hD hS hl
        have h := hj_11 t0_11 h
        refine lv_istore_n (lv' := [(1, .int t0_11), (0, .int v0), (2, .int v2_8), (3, .int v3_8), (4, .int t0_9), (5, .int t0_10)]) hx hb dX10_placeOf_91 rfl hl (by decide) rfl (fun ls hl => ?_)
        refine lv_iload_n hx hb dX10_placeOf_92 rfl (lv_at hl 0 rfl) ?_
        refine lv_iconst (v := 4) hx hb dX10_placeOf_93 (by decide) ?_
        refine lv_iload_n hx hb dX10_placeOf_94 rfl (lv_at hl 2 rfl) ?_
        refine lv_iload_n hx hb dX10_placeOf_95 rfl (lv_at hl 0 rfl) ?_
        refine lv_isub hx hb dX10_placeOf_96 ?_
        refine lv_imul hx hb dX10_placeOf_97 ?_
        refine lv_iadd hx hb dX10_placeOf_98 ?_
        exact hret (t0_11 + (4 * (v2_8 - t0_11))) () _ _ _ _ dX10_placeOf_99 (vp_nar_int _) h hP hD hS
      refine lv_icmp_ne (tgt := 87) hx hb dX10_placeOf_77 (by decide) (fun c_12 => ?_) (fun c_12 => ?_)
      · have h := h.2 c_12
        refine lv_iload hx hb dX10_placeOf_87 (lv_at hl 5 rfl) ?_
        refine lv_iload_n hx hb dX10_placeOf_89 rfl (lv_at hl 4 rfl) ?_
        refine lv_iadd hx hb dX10_placeOf_90 ?_
        exact hJ_11 (t0_9 + v3_8) H _ _ h hP hD hS (lv_sub hl [1, 2, 3, 4, 5, 0] rfl)
      · have h := h.1 c_12
        refine lv_iload hx hb dX10_placeOf_80 (lv_at hl 0 rfl) ?_
        refine lv_iload_n hx hb dX10_placeOf_82 rfl (lv_at hl 4 rfl) ?_
        refine lv_isub hx hb dX10_placeOf_83 ?_
        refine lv_goto (tgt := 91) hx hb dX10_placeOf_84 (by decide) ?_
        exact hJ_11 (t0_10 - v3_8) H _ _ h hP hD hS (lv_sub hl [1, 2, 3, 4, 5, 0] rfl)
    refine lv_icmp_ge (tgt := 70) hx hb dX10_placeOf_63 (by decide) (fun c_13 => ?_) (fun c_13 => ?_)
    · have h := h.1 c_13
      refine lv_iconst (v := 3) hx hb dX10_placeOf_70 (by decide) ?_
      exact hJ_10 3 H _ _ h hP hD hS (lv_sub hl [1, 2, 3, 4, 0] rfl)
    · have h := h.2 c_13
      refine lv_iload_n hx hb dX10_placeOf_66 rfl (lv_at hl 3 rfl) ?_
      refine lv_goto (tgt := 71) hx hb dX10_placeOf_67 (by decide) ?_
      exact hJ_10 v2_8 H _ _ h hP hD hS (lv_sub hl [1, 2, 3, 4, 0] rfl)
  refine lv_icmp_ge (tgt := 56) hx hb dX10_placeOf_49 (by decide) (fun c_14 => ?_) (fun c_14 => ?_)
  · have h := h.1 c_14
    refine lv_iload_n hx hb dX10_placeOf_56 rfl (lv_at hl 2 rfl) ?_
    refine lv_iconst (v := 3) hx hb dX10_placeOf_57 (by decide) ?_
    refine lv_isub hx hb dX10_placeOf_58 ?_
    exact hJ_9 (v2_8 - 3) H _ _ h hP hD hS (lv_sub hl [0, 1, 2, 3] rfl)
  · have h := h.2 c_14
    refine lv_iconst (v := 0) hx hb dX10_placeOf_52 (by decide) ?_
    refine lv_goto (tgt := 59) hx hb dX10_placeOf_53 (by decide) ?_
    exact hJ_9 0 H _ _ h hP hD hS (lv_sub hl [0, 1, 2, 3] rfl)
def wp_X10_givenAt (ma : Int32) (mgiv : (Nat → Int32)) (v1 v2 v3 : Int32) (K : Int32 → Prop) : Prop := ¬ ma = 0 ∧ ¬ ma = 0 ∧ vp_in (((32 * ((4 * (v1 / ma)) + v3)) + (4 * (jrem v1 ma))) + v2) 1024 ∧ K (jat mgiv (((32 * ((4 * (v1 / ma)) + v3)) + (4 * (jrem v1 ma))) + v2))
abbrev jw_X10_givenAt : List Cond := .code yX10_givenAt cX10_givenAt 4 (some .int) :: jmAll
abbrev rmX10_givenAt : Room := { frames := 0, cells := 0, slots := 0, locals := 0 }
set_option maxHeartbeats 4000000 in
set_option maxRecDepth 100000 in
theorem c_X10_givenAt (l : Launch) (D : va_G) (cI cB : ClassId) (tt : Nat × Nat × Nat) (a_mo a_mo2 a_mo3 a_mo4 a_mo5 a_mo6 a_mo7 a_mo8 a_mo11 a_mo16 : Nat) (sz : Nat) (ma : Int32) (md : Int32) (mq : Int32) (mz : Int32) (msz : Int32) (mat : Int32) (mpl : Int32) (mfa : Int32) (mth : Int32) (mpic : (Nat → Int32)) (mgiv : (Nat → Int32)) (mkep : (Nat → Int32)) (mmod : (Nat → Int32)) (mcoe : (Nat → Int32)) (mnmo : (Nat → Int32)) (mnco : (Nat → Int32)) (mby : (Nat → Int32)) (mwk : (Nat → Int32)) (v1 v2 v3 : Int32) {K : Int32 → Prop} (h : wp_X10_givenAt ma mgiv v1 v2 v3 K) : Met l yX10_givenAt jw_X10_givenAt rmX10_givenAt (va_Pc [.ref a_mo, .int v1, .int v2, .int v3] (jm_Pre D cI cB tt (wd_mo_mo2_mo3_mo4_mo5_mo6_mo7_mo8_mo11_mo16 cI cB a_mo a_mo2 a_mo3 a_mo4 a_mo5 a_mo6 a_mo7 a_mo8 a_mo11 a_mo16 ma md mq mz msz mat mpl mfa mth mpic mgiv mkep mmod mcoe mnmo mnco mby mwk) sz)) (va_Qi (fun (r : Int32) (u : Unit) => K r) (jm_Post D cI cB (wd_mo_mo2_mo3_mo4_mo5_mo6_mo7_mo8_mo11_mo16 cI cB a_mo a_mo2 a_mo3 a_mo4 a_mo5 a_mo6 a_mo7 a_mo8 a_mo11 a_mo16 ma md mq mz msz mat mpl mfa mth mpic mgiv mkep mmod mcoe mnmo mnco mby mwk) sz (fun (u : Unit) => wd_mo_mo2_mo3_mo4_mo5_mo6_mo7_mo8_mo11_mo16 cI cB a_mo a_mo2 a_mo3 a_mo4 a_mo5 a_mo6 a_mo7 a_mo8 a_mo11 a_mo16 ma md mq mz msz mat mpl mfa mth mpic mgiv mkep mmod mcoe mnmo mnco mby mwk)) (va_A (wd_mo_mo2_mo3_mo4_mo5_mo6_mo7_mo8_mo11_mo16 cI cB a_mo a_mo2 a_mo3 a_mo4 a_mo5 a_mo6 a_mo7 a_mo8 a_mo11 a_mo16 ma md mq mz msz mat mpl mfa mth mpic mgiv mkep mmod mcoe mnmo mnco mby mwk) sz)) 0 0 (va_A (wd_mo_mo2_mo3_mo4_mo5_mo6_mo7_mo8_mo11_mo16 cI cB a_mo a_mo2 a_mo3 a_mo4 a_mo5 a_mo6 a_mo7 a_mo8 a_mo11 a_mo16 ma md mq mz msz mat mpl mfa mth mpic mgiv mkep mmod mcoe mnmo mnco mby mwk) sz) := by
  refine jm_metI (by decide +kernel) rfl rfl (Nat.le_of_ble_eq_true rfl) ?_
  intro p e s m args below meth c A Q ls C0 hP hD hl hret
  obtain ⟨hx, hb, hml, hr, hown, hts, hlocks, hA, hK, hE⟩ := C0
  have hS : va_S A s.heap s.heap [] := va_S.rf
  have hl : lv_has ls 4 [(0, .ref a_mo), (1, .int v1), (2, .int v2), (3, .int v3)] := hl
  unfold wp_X10_givenAt at h
  have hP : va_P D vwCl [(a_mo, .inr (10, [.int ma, .int md, .ref a_mo2, .ref a_mo3, .ref a_mo4, .ref a_mo5, .ref a_mo6, .ref a_mo7, .ref a_mo8, .int mq, .int mz, .ref a_mo11, .int msz, .int mat, .int mpl, .int mfa, .ref a_mo16, .int mth])), (a_mo2, .inl (cI, 1024, .inl mpic)), (a_mo3, .inl (cI, 1024, .inl mgiv)), (a_mo4, .inl (cI, 1024, .inl mkep)), (a_mo5, .inl (cI, 64, .inl mmod)), (a_mo6, .inl (cI, 1024, .inl mcoe)), (a_mo7, .inl (cI, 64, .inl mnmo)), (a_mo8, .inl (cI, 1024, .inl mnco)), (a_mo11, .inl (cI, 8000, .inl mby)), (a_mo16, .inl (cI, 16, .inl mwk))] s.heap := hP
  have hD : va_D A [(a_mo, .inr (10, [.int ma, .int md, .ref a_mo2, .ref a_mo3, .ref a_mo4, .ref a_mo5, .ref a_mo6, .ref a_mo7, .ref a_mo8, .int mq, .int mz, .ref a_mo11, .int msz, .int mat, .int mpl, .int mfa, .ref a_mo16, .int mth])), (a_mo2, .inl (cI, 1024, .inl mpic)), (a_mo3, .inl (cI, 1024, .inl mgiv)), (a_mo4, .inl (cI, 1024, .inl mkep)), (a_mo5, .inl (cI, 64, .inl mmod)), (a_mo6, .inl (cI, 1024, .inl mcoe)), (a_mo7, .inl (cI, 64, .inl mnmo)), (a_mo8, .inl (cI, 1024, .inl mnco)), (a_mo11, .inl (cI, 8000, .inl mby)), (a_mo16, .inl (cI, 16, .inl mwk))] := hD
  have iX10 : ∀ w ∈ wsX100, w ∈ jw_X10_givenAt := fun w h => List.mem_cons_of_mem _ (jm_iX10 w h)
  have lk20 := hts (.fieldLink RX10 20 "IntraMillModel" "given" "[I") (List.mem_cons_of_mem _ mw_737)
  have lk7 := hts (.fieldLink RX10 7 "IntraMillModel" "across" "I") (List.mem_cons_of_mem _ mw_734)
  refine lv_aload_n hx hb dX10_givenAt_0 rfl (lv_at hl 0 rfl) ?_
  refine va_get (D := D) (ci := 10) (v := .ref a_mo3) (C := RX10) (T := TX10) (N := 18) hx hb hts iX10 hown hK hP 0 rfl rfl 3 (by decide) lk20 (fun _ h9 => h9) rfl dX10_givenAt_1 ?_
  refine lv_bipush (v := 32) hx hb dX10_givenAt_4 (by decide) ?_
  refine lv_iconst (v := 4) hx hb dX10_givenAt_6 (by decide) ?_
  refine lv_iload_n hx hb dX10_givenAt_7 rfl (lv_at hl 1 rfl) ?_
  refine lv_aload_n hx hb dX10_givenAt_8 rfl (lv_at hl 0 rfl) ?_
  refine va_get (D := D) (ci := 10) (v := .int ma) (C := RX10) (T := TX10) (N := 18) hx hb hts iX10 hown hK hP 0 rfl rfl 0 (by decide) lk7 (fun _ h9 => h9) rfl dX10_givenAt_9 ?_
  obtain ⟨hz_1, h⟩ := h
  refine lv_idiv hx hb dX10_givenAt_12 hz_1 ?_
  refine lv_imul hx hb dX10_givenAt_13 ?_
  refine lv_iload_n hx hb dX10_givenAt_14 rfl (lv_at hl 3 rfl) ?_
  refine lv_iadd hx hb dX10_givenAt_15 ?_
  refine lv_imul hx hb dX10_givenAt_16 ?_
  refine lv_iconst (v := 4) hx hb dX10_givenAt_17 (by decide) ?_
  refine lv_iload_n hx hb dX10_givenAt_18 rfl (lv_at hl 1 rfl) ?_
  refine lv_aload_n hx hb dX10_givenAt_19 rfl (lv_at hl 0 rfl) ?_
  refine va_get (D := D) (ci := 10) (v := .int ma) (C := RX10) (T := TX10) (N := 18) hx hb hts iX10 hown hK hP 0 rfl rfl 0 (by decide) lk7 (fun _ h9 => h9) rfl dX10_givenAt_20 ?_
  obtain ⟨hz_2, h⟩ := h
  refine lv_irem hx hb dX10_givenAt_23 hz_2 ?_
  refine lv_imul hx hb dX10_givenAt_24 ?_
  refine lv_iadd hx hb dX10_givenAt_25 ?_
  refine lv_iload_n hx hb dX10_givenAt_26 rfl (lv_at hl 2 rfl) ?_
  refine lv_iadd hx hb dX10_givenAt_27 ?_
  obtain ⟨hi_3, h⟩ := h
  refine va_iald hx hb hK hP 2 0 rfl rfl hi_3 dX10_givenAt_28 ?_
  exact hret (jat mgiv (((32 * ((4 * (v1 / ma)) + v3)) + (4 * (jrem v1 ma))) + v2)) () _ _ _ _ dX10_givenAt_29 (vp_nar_int _) h hP hD hS
def wl_X10_costOf_5 (v1 : Int32) (v2 : Int32) (ma : Int32) (mpic : (Nat → Int32)) (mgiv : (Nat → Int32)) (K : Int32 → Prop) (X : Int32 → Int32 → Prop) : Nat → Int32 → Int32 → Prop
  | 0, _, _ => False
  | n + 1, v3, v4 => ((16 ≤ v4 → X v3 v4) ∧ (¬ 16 ≤ v4 → wp_X10_givenAt ma mgiv v1 (jrem v4 4) (v4 / 4) (fun (r_2 : Int32) => wp_X10_told ma mpic v1 v2 (jrem v4 4) (v4 / 4) (fun (r_3 : Int32) => wp_X10_size (r_2 - r_3) (fun (r_4 : Int32) => ∀ x3_5 : Int32, x3_5 = v3 + r_4 → ∀ x4_6 : Int32, x4_6 = v4 + 1 → wl_X10_costOf_5 v1 v2 ma mpic mgiv K X n x3_5 x4_6)))))
def wp_X10_costOf (ma : Int32) (mpic : (Nat → Int32)) (mgiv : (Nat → Int32)) (v1 v2 : Int32) (K : Int32 → Prop) : Prop := ∃ k : Nat, wl_X10_costOf_5 v1 v2 ma mpic mgiv K (fun (v3_7 : Int32) (v4_7 : Int32) => K v3_7) k 0 0
abbrev jw_X10_costOf : List Cond := .code yX10_costOf cX10_costOf 5 (some .int) :: jmAll
abbrev rmX10_costOf : Room := { frames := 4, cells := 0, slots := 0, locals := 98 }
set_option maxHeartbeats 4000000 in
set_option maxRecDepth 100000 in
theorem c_X10_costOf (l : Launch) (D : va_G) (cI cB : ClassId) (tt : Nat × Nat × Nat) (a_mo a_mo2 a_mo3 a_mo4 a_mo5 a_mo6 a_mo7 a_mo8 a_mo11 a_mo16 : Nat) (sz : Nat) (ma : Int32) (md : Int32) (mq : Int32) (mz : Int32) (msz : Int32) (mat : Int32) (mpl : Int32) (mfa : Int32) (mth : Int32) (mpic : (Nat → Int32)) (mgiv : (Nat → Int32)) (mkep : (Nat → Int32)) (mmod : (Nat → Int32)) (mcoe : (Nat → Int32)) (mnmo : (Nat → Int32)) (mnco : (Nat → Int32)) (mby : (Nat → Int32)) (mwk : (Nat → Int32)) (v1 v2 : Int32) {K : Int32 → Prop} (h : wp_X10_costOf ma mpic mgiv v1 v2 K) : Met l yX10_costOf jw_X10_costOf rmX10_costOf (va_Pc [.ref a_mo, .int v1, .int v2] (jm_Pre D cI cB tt (wd_mo_mo2_mo3_mo4_mo5_mo6_mo7_mo8_mo11_mo16 cI cB a_mo a_mo2 a_mo3 a_mo4 a_mo5 a_mo6 a_mo7 a_mo8 a_mo11 a_mo16 ma md mq mz msz mat mpl mfa mth mpic mgiv mkep mmod mcoe mnmo mnco mby mwk) sz)) (va_Qi (fun (r : Int32) (u : Unit) => K r) (jm_Post D cI cB (wd_mo_mo2_mo3_mo4_mo5_mo6_mo7_mo8_mo11_mo16 cI cB a_mo a_mo2 a_mo3 a_mo4 a_mo5 a_mo6 a_mo7 a_mo8 a_mo11 a_mo16 ma md mq mz msz mat mpl mfa mth mpic mgiv mkep mmod mcoe mnmo mnco mby mwk) sz (fun (u : Unit) => wd_mo_mo2_mo3_mo4_mo5_mo6_mo7_mo8_mo11_mo16 cI cB a_mo a_mo2 a_mo3 a_mo4 a_mo5 a_mo6 a_mo7 a_mo8 a_mo11 a_mo16 ma md mq mz msz mat mpl mfa mth mpic mgiv mkep mmod mcoe mnmo mnco mby mwk)) (va_A (wd_mo_mo2_mo3_mo4_mo5_mo6_mo7_mo8_mo11_mo16 cI cB a_mo a_mo2 a_mo3 a_mo4 a_mo5 a_mo6 a_mo7 a_mo8 a_mo11 a_mo16 ma md mq mz msz mat mpl mfa mth mpic mgiv mkep mmod mcoe mnmo mnco mby mwk) sz)) 0 0 (va_A (wd_mo_mo2_mo3_mo4_mo5_mo6_mo7_mo8_mo11_mo16 cI cB a_mo a_mo2 a_mo3 a_mo4 a_mo5 a_mo6 a_mo7 a_mo8 a_mo11 a_mo16 ma md mq mz msz mat mpl mfa mth mpic mgiv mkep mmod mcoe mnmo mnco mby mwk) sz) := by
  refine jm_metI (by decide +kernel) rfl rfl (Nat.le_of_ble_eq_true rfl) ?_
  intro p e s m args below meth c A Q ls C0 hP hD hl hret
  obtain ⟨hx, hb, hml, hr, hown, hts, hlocks, hA, hK, hE⟩ := C0
  have hS : va_S A s.heap s.heap [] := va_S.rf
  have hl : lv_has ls 5 [(0, .ref a_mo), (1, .int v1), (2, .int v2)] := hl
  unfold wp_X10_costOf at h
  have hP : va_P D vwCl [(a_mo, .inr (10, [.int ma, .int md, .ref a_mo2, .ref a_mo3, .ref a_mo4, .ref a_mo5, .ref a_mo6, .ref a_mo7, .ref a_mo8, .int mq, .int mz, .ref a_mo11, .int msz, .int mat, .int mpl, .int mfa, .ref a_mo16, .int mth])), (a_mo2, .inl (cI, 1024, .inl mpic)), (a_mo3, .inl (cI, 1024, .inl mgiv)), (a_mo4, .inl (cI, 1024, .inl mkep)), (a_mo5, .inl (cI, 64, .inl mmod)), (a_mo6, .inl (cI, 1024, .inl mcoe)), (a_mo7, .inl (cI, 64, .inl mnmo)), (a_mo8, .inl (cI, 1024, .inl mnco)), (a_mo11, .inl (cI, 8000, .inl mby)), (a_mo16, .inl (cI, 16, .inl mwk))] s.heap := hP
  have hD : va_D A [(a_mo, .inr (10, [.int ma, .int md, .ref a_mo2, .ref a_mo3, .ref a_mo4, .ref a_mo5, .ref a_mo6, .ref a_mo7, .ref a_mo8, .int mq, .int mz, .ref a_mo11, .int msz, .int mat, .int mpl, .int mfa, .ref a_mo16, .int mth])), (a_mo2, .inl (cI, 1024, .inl mpic)), (a_mo3, .inl (cI, 1024, .inl mgiv)), (a_mo4, .inl (cI, 1024, .inl mkep)), (a_mo5, .inl (cI, 64, .inl mmod)), (a_mo6, .inl (cI, 1024, .inl mcoe)), (a_mo7, .inl (cI, 64, .inl mnmo)), (a_mo8, .inl (cI, 1024, .inl mnco)), (a_mo11, .inl (cI, 8000, .inl mby)), (a_mo16, .inl (cI, 16, .inl mwk))] := hD
  refine lv_iconst (v := 0) hx hb dX10_costOf_0 (by decide) ?_
  refine lv_istore_n (lv' := [(3, .int 0), (0, .ref a_mo), (1, .int v1), (2, .int v2)]) hx hb dX10_costOf_1 rfl hl (by decide) rfl (fun ls hl => ?_)
  refine lv_iconst (v := 0) hx hb dX10_costOf_2 (by decide) ?_
  refine lv_istore (lv' := [(4, .int 0), (3, .int 0), (0, .ref a_mo), (1, .int v1), (2, .int v2)]) hx hb dX10_costOf_3 hl (by decide) rfl (fun ls hl => ?_)
  obtain ⟨n_7, h⟩ := h
  have hL_7 : ∀ (v1 : Int32) (v2 : Int32) (X : Int32 → Int32 → Prop), (∀ (v3 : Int32) (v4 : Int32), ∀ (H : Heap) (locs : List Loc) (ls : Array Slot), X v3 v4 → va_P D vwCl [(a_mo, .inr (10, [.int ma, .int md, .ref a_mo2, .ref a_mo3, .ref a_mo4, .ref a_mo5, .ref a_mo6, .ref a_mo7, .ref a_mo8, .int mq, .int mz, .ref a_mo11, .int msz, .int mat, .int mpl, .int mfa, .ref a_mo16, .int mth])), (a_mo2, .inl (cI, 1024, .inl mpic)), (a_mo3, .inl (cI, 1024, .inl mgiv)), (a_mo4, .inl (cI, 1024, .inl mkep)), (a_mo5, .inl (cI, 64, .inl mmod)), (a_mo6, .inl (cI, 1024, .inl mcoe)), (a_mo7, .inl (cI, 64, .inl mnmo)), (a_mo8, .inl (cI, 1024, .inl mnco)), (a_mo11, .inl (cI, 8000, .inl mby)), (a_mo16, .inl (cI, 16, .inl mwk))] H → va_D A [(a_mo, .inr (10, [.int ma, .int md, .ref a_mo2, .ref a_mo3, .ref a_mo4, .ref a_mo5, .ref a_mo6, .ref a_mo7, .ref a_mo8, .int mq, .int mz, .ref a_mo11, .int msz, .int mat, .int mpl, .int mfa, .ref a_mo16, .int mth])), (a_mo2, .inl (cI, 1024, .inl mpic)), (a_mo3, .inl (cI, 1024, .inl mgiv)), (a_mo4, .inl (cI, 1024, .inl mkep)), (a_mo5, .inl (cI, 64, .inl mmod)), (a_mo6, .inl (cI, 1024, .inl mcoe)), (a_mo7, .inl (cI, 64, .inl mnmo)), (a_mo8, .inl (cI, 1024, .inl mnco)), (a_mo11, .inl (cI, 8000, .inl mby)), (a_mo16, .inl (cI, 16, .inl mwk))] → va_S A s.heap H locs → lv_has ls 5 [(0, .ref a_mo), (1, .int v1), (2, .int v2), (3, .int v3), (4, .int v4)] → W p l e rmX10_costOf s m args below meth c H locs 0 0 Q (F0 m 52 ls [])) → ∀ (n : Nat) (v3 : Int32) (v4 : Int32), ∀ (H : Heap) (locs : List Loc) (ls : Array Slot), wl_X10_costOf_5 v1 v2 ma mpic mgiv K X n v3 v4 → va_P D vwCl [(a_mo, .inr (10, [.int ma, .int md, .ref a_mo2, .ref a_mo3, .ref a_mo4, .ref a_mo5, .ref a_mo6, .ref a_mo7, .ref a_mo8, .int mq, .int mz, .ref a_mo11, .int msz, .int mat, .int mpl, .int mfa, .ref a_mo16, .int mth])), (a_mo2, .inl (cI, 1024, .inl mpic)), (a_mo3, .inl (cI, 1024, .inl mgiv)), (a_mo4, .inl (cI, 1024, .inl mkep)), (a_mo5, .inl (cI, 64, .inl mmod)), (a_mo6, .inl (cI, 1024, .inl mcoe)), (a_mo7, .inl (cI, 64, .inl mnmo)), (a_mo8, .inl (cI, 1024, .inl mnco)), (a_mo11, .inl (cI, 8000, .inl mby)), (a_mo16, .inl (cI, 16, .inl mwk))] H → va_D A [(a_mo, .inr (10, [.int ma, .int md, .ref a_mo2, .ref a_mo3, .ref a_mo4, .ref a_mo5, .ref a_mo6, .ref a_mo7, .ref a_mo8, .int mq, .int mz, .ref a_mo11, .int msz, .int mat, .int mpl, .int mfa, .ref a_mo16, .int mth])), (a_mo2, .inl (cI, 1024, .inl mpic)), (a_mo3, .inl (cI, 1024, .inl mgiv)), (a_mo4, .inl (cI, 1024, .inl mkep)), (a_mo5, .inl (cI, 64, .inl mmod)), (a_mo6, .inl (cI, 1024, .inl mcoe)), (a_mo7, .inl (cI, 64, .inl mnmo)), (a_mo8, .inl (cI, 1024, .inl mnco)), (a_mo11, .inl (cI, 8000, .inl mby)), (a_mo16, .inl (cI, 16, .inl mwk))] → va_S A s.heap H locs → lv_has ls 5 [(0, .ref a_mo), (1, .int v1), (2, .int v2), (3, .int v3), (4, .int v4)] → W p l e rmX10_costOf s m args below meth c H locs 0 0 Q (F0 m 5 ls []) := by
    intro v1 v2 X hX n
    induction n with
    | zero => intro v3 v4 H locs ls h; rw [wl_X10_costOf_5] at h; exact h.elim
    | succ n ih =>
      intro v3 v4 H locs ls h hP hD hS hl
      rw [wl_X10_costOf_5] at h
      refine lv_iload hx hb dX10_costOf_5 (lv_at hl 4 rfl) ?_
      refine lv_bipush (v := 16) hx hb dX10_costOf_7 (by decide) ?_
      refine lv_icmp_ge (tgt := 52) hx hb dX10_costOf_9 (by decide) (fun c_1 => ?_) (fun c_1 => ?_)
      · have h := h.1 c_1
        exact hX v3 v4 H _ _ h hP hD hS (lv_sub hl [0, 1, 2, 3, 4] rfl)
      · have h := h.2 c_1
        refine lv_iload_n hx hb dX10_costOf_12 rfl (lv_at hl 3 rfl) ?_
        refine lv_aload_n hx hb dX10_costOf_13 rfl (lv_at hl 0 rfl) ?_
        refine lv_iload_n hx hb dX10_costOf_14 rfl (lv_at hl 1 rfl) ?_
        refine lv_iload hx hb dX10_costOf_15 (lv_at hl 4 rfl) ?_
        refine lv_iconst (v := 4) hx hb dX10_costOf_17 (by decide) ?_
        refine lv_irem hx hb dX10_costOf_18 (by decide) ?_
        refine lv_iload hx hb dX10_costOf_19 (lv_at hl 4 rfl) ?_
        refine lv_iconst (v := 4) hx hb dX10_costOf_21 (by decide) ?_
        refine lv_idiv hx hb dX10_costOf_22 (by decide) ?_
        have hPc := hP.sub (ws' := [(a_mo, .inr (10, [.int ma, .int md, .ref a_mo2, .ref a_mo3, .ref a_mo4, .ref a_mo5, .ref a_mo6, .ref a_mo7, .ref a_mo8, .int mq, .int mz, .ref a_mo11, .int msz, .int mat, .int mpl, .int mfa, .ref a_mo16, .int mth])), (a_mo2, .inl (cI, 1024, .inl mpic)), (a_mo3, .inl (cI, 1024, .inl mgiv)), (a_mo4, .inl (cI, 1024, .inl mkep)), (a_mo5, .inl (cI, 64, .inl mmod)), (a_mo6, .inl (cI, 1024, .inl mcoe)), (a_mo7, .inl (cI, 64, .inl mnmo)), (a_mo8, .inl (cI, 1024, .inl mnco)), (a_mo11, .inl (cI, 8000, .inl mby)), (a_mo16, .inl (cI, 16, .inl mwk))]) [0, 1, 2, 3, 4, 5, 6, 7, 8, 9] rfl
        have hDc := hD.sub (ws' := [(a_mo, .inr (10, [.int ma, .int md, .ref a_mo2, .ref a_mo3, .ref a_mo4, .ref a_mo5, .ref a_mo6, .ref a_mo7, .ref a_mo8, .int mq, .int mz, .ref a_mo11, .int msz, .int mat, .int mpl, .int mfa, .ref a_mo16, .int mth])), (a_mo2, .inl (cI, 1024, .inl mpic)), (a_mo3, .inl (cI, 1024, .inl mgiv)), (a_mo4, .inl (cI, 1024, .inl mkep)), (a_mo5, .inl (cI, 64, .inl mmod)), (a_mo6, .inl (cI, 1024, .inl mcoe)), (a_mo7, .inl (cI, 64, .inl mnmo)), (a_mo8, .inl (cI, 1024, .inl mnco)), (a_mo11, .inl (cI, 8000, .inl mby)), (a_mo16, .inl (cI, 16, .inl mwk))]) [0, 1, 2, 3, 4, 5, 6, 7, 8, 9] (by decide) rfl
        have hFc := va_free (wc := [(a_mo, .inr (10, [.int ma, .int md, .ref a_mo2, .ref a_mo3, .ref a_mo4, .ref a_mo5, .ref a_mo6, .ref a_mo7, .ref a_mo8, .int mq, .int mz, .ref a_mo11, .int msz, .int mat, .int mpl, .int mfa, .ref a_mo16, .int mth])), (a_mo2, .inl (cI, 1024, .inl mpic)), (a_mo3, .inl (cI, 1024, .inl mgiv)), (a_mo4, .inl (cI, 1024, .inl mkep)), (a_mo5, .inl (cI, 64, .inl mmod)), (a_mo6, .inl (cI, 1024, .inl mcoe)), (a_mo7, .inl (cI, 64, .inl mnmo)), (a_mo8, .inl (cI, 1024, .inl mnco)), (a_mo11, .inl (cI, 8000, .inl mby)), (a_mo16, .inl (cI, 16, .inl mwk))]) hD hS hA [0, 1, 2, 3, 4, 5, 6, 7, 8, 9] rfl
        refine jm_calli (wr := []) (va_runV (As := [.int v1, .int (jrem v4 4), .int (v4 / 4)]) (rest := [.int v3]) ⟨hx, hb, hml, hown, hts⟩ (c_X10_givenAt l D cI cB tt a_mo a_mo2 a_mo3 a_mo4 a_mo5 a_mo6 a_mo7 a_mo8 a_mo11 a_mo16 H.size ma md mq mz msz mat mpl mfa mth mpic mgiv mkep mmod mcoe mnmo mnco mby mwk v1 (jrem v4 4) (v4 / 4) h) (cwV 3 hts (jm_gV mw_840 mw_842 mw_32 mw_65 mw_843) rfl rfl rfl (by decide +kernel) ⟨Nat.le_of_ble_eq_true rfl, Nat.le_of_ble_eq_true rfl⟩) ⟨jm_blind, va_recv hK hPc (ci := 10) (q0 := 0) rfl rfl, jm_pre hK hE hS hPc hDc hFc _⟩ rfl rfl hl.1 rfl (lv_room (Nat.le_of_ble_eq_true rfl)) dX10_costOf_23 ⟨Nat.zero_le _, Nat.zero_le _⟩) hS hP hD [0, 1, 2, 3, 4, 5, 6, 7, 8, 9] [] rfl rfl (by decide) (by decide) hFc (fun r_2 u_2 H_2 locs hw hP hD hS => ?_)
        have h := hw
        have hP : va_P D vwCl [(a_mo, .inr (10, [.int ma, .int md, .ref a_mo2, .ref a_mo3, .ref a_mo4, .ref a_mo5, .ref a_mo6, .ref a_mo7, .ref a_mo8, .int mq, .int mz, .ref a_mo11, .int msz, .int mat, .int mpl, .int mfa, .ref a_mo16, .int mth])), (a_mo2, .inl (cI, 1024, .inl mpic)), (a_mo3, .inl (cI, 1024, .inl mgiv)), (a_mo4, .inl (cI, 1024, .inl mkep)), (a_mo5, .inl (cI, 64, .inl mmod)), (a_mo6, .inl (cI, 1024, .inl mcoe)), (a_mo7, .inl (cI, 64, .inl mnmo)), (a_mo8, .inl (cI, 1024, .inl mnco)), (a_mo11, .inl (cI, 8000, .inl mby)), (a_mo16, .inl (cI, 16, .inl mwk))] H_2 := hP.sub [0, 1, 2, 3, 4, 5, 6, 7, 8, 9] rfl
        have hD : va_D A [(a_mo, .inr (10, [.int ma, .int md, .ref a_mo2, .ref a_mo3, .ref a_mo4, .ref a_mo5, .ref a_mo6, .ref a_mo7, .ref a_mo8, .int mq, .int mz, .ref a_mo11, .int msz, .int mat, .int mpl, .int mfa, .ref a_mo16, .int mth])), (a_mo2, .inl (cI, 1024, .inl mpic)), (a_mo3, .inl (cI, 1024, .inl mgiv)), (a_mo4, .inl (cI, 1024, .inl mkep)), (a_mo5, .inl (cI, 64, .inl mmod)), (a_mo6, .inl (cI, 1024, .inl mcoe)), (a_mo7, .inl (cI, 64, .inl mnmo)), (a_mo8, .inl (cI, 1024, .inl mnco)), (a_mo11, .inl (cI, 8000, .inl mby)), (a_mo16, .inl (cI, 16, .inl mwk))] := hD.sub [0, 1, 2, 3, 4, 5, 6, 7, 8, 9] (by decide) rfl
        refine lv_aload_n hx hb dX10_costOf_26 rfl (lv_at hl 0 rfl) ?_
        refine lv_iload_n hx hb dX10_costOf_27 rfl (lv_at hl 1 rfl) ?_
        refine lv_iload_n hx hb dX10_costOf_28 rfl (lv_at hl 2 rfl) ?_
        refine lv_iload hx hb dX10_costOf_29 (lv_at hl 4 rfl) ?_
        refine lv_iconst (v := 4) hx hb dX10_costOf_31 (by decide) ?_
        refine lv_irem hx hb dX10_costOf_32 (by decide) ?_
        refine lv_iload hx hb dX10_costOf_33 (lv_at hl 4 rfl) ?_
        refine lv_iconst (v := 4) hx hb dX10_costOf_35 (by decide) ?_
        refine lv_idiv hx hb dX10_costOf_36 (by decide) ?_
        have hPc := hP.sub (ws' := [(a_mo, .inr (10, [.int ma, .int md, .ref a_mo2, .ref a_mo3, .ref a_mo4, .ref a_mo5, .ref a_mo6, .ref a_mo7, .ref a_mo8, .int mq, .int mz, .ref a_mo11, .int msz, .int mat, .int mpl, .int mfa, .ref a_mo16, .int mth])), (a_mo2, .inl (cI, 1024, .inl mpic)), (a_mo3, .inl (cI, 1024, .inl mgiv)), (a_mo4, .inl (cI, 1024, .inl mkep)), (a_mo5, .inl (cI, 64, .inl mmod)), (a_mo6, .inl (cI, 1024, .inl mcoe)), (a_mo7, .inl (cI, 64, .inl mnmo)), (a_mo8, .inl (cI, 1024, .inl mnco)), (a_mo11, .inl (cI, 8000, .inl mby)), (a_mo16, .inl (cI, 16, .inl mwk))]) [0, 1, 2, 3, 4, 5, 6, 7, 8, 9] rfl
        have hDc := hD.sub (ws' := [(a_mo, .inr (10, [.int ma, .int md, .ref a_mo2, .ref a_mo3, .ref a_mo4, .ref a_mo5, .ref a_mo6, .ref a_mo7, .ref a_mo8, .int mq, .int mz, .ref a_mo11, .int msz, .int mat, .int mpl, .int mfa, .ref a_mo16, .int mth])), (a_mo2, .inl (cI, 1024, .inl mpic)), (a_mo3, .inl (cI, 1024, .inl mgiv)), (a_mo4, .inl (cI, 1024, .inl mkep)), (a_mo5, .inl (cI, 64, .inl mmod)), (a_mo6, .inl (cI, 1024, .inl mcoe)), (a_mo7, .inl (cI, 64, .inl mnmo)), (a_mo8, .inl (cI, 1024, .inl mnco)), (a_mo11, .inl (cI, 8000, .inl mby)), (a_mo16, .inl (cI, 16, .inl mwk))]) [0, 1, 2, 3, 4, 5, 6, 7, 8, 9] (by decide) rfl
        have hFc := va_free (wc := [(a_mo, .inr (10, [.int ma, .int md, .ref a_mo2, .ref a_mo3, .ref a_mo4, .ref a_mo5, .ref a_mo6, .ref a_mo7, .ref a_mo8, .int mq, .int mz, .ref a_mo11, .int msz, .int mat, .int mpl, .int mfa, .ref a_mo16, .int mth])), (a_mo2, .inl (cI, 1024, .inl mpic)), (a_mo3, .inl (cI, 1024, .inl mgiv)), (a_mo4, .inl (cI, 1024, .inl mkep)), (a_mo5, .inl (cI, 64, .inl mmod)), (a_mo6, .inl (cI, 1024, .inl mcoe)), (a_mo7, .inl (cI, 64, .inl mnmo)), (a_mo8, .inl (cI, 1024, .inl mnco)), (a_mo11, .inl (cI, 8000, .inl mby)), (a_mo16, .inl (cI, 16, .inl mwk))]) hD hS hA [0, 1, 2, 3, 4, 5, 6, 7, 8, 9] rfl
        refine jm_calli (wr := []) (va_runV (As := [.int v1, .int v2, .int (jrem v4 4), .int (v4 / 4)]) (rest := [.int r_2, .int v3]) ⟨hx, hb, hml, hown, hts⟩ (c_X10_told l D cI cB tt a_mo a_mo2 a_mo3 a_mo4 a_mo5 a_mo6 a_mo7 a_mo8 a_mo11 a_mo16 H_2.size ma md mq mz msz mat mpl mfa mth mpic mgiv mkep mmod mcoe mnmo mnco mby mwk v1 v2 (jrem v4 4) (v4 / 4) h) (cwV 4 hts (jm_gV mw_844 mw_846 mw_33 mw_65 mw_847) rfl rfl rfl (by decide +kernel) ⟨Nat.le_of_ble_eq_true rfl, Nat.le_of_ble_eq_true rfl⟩) ⟨jm_blind, va_recv hK hPc (ci := 10) (q0 := 0) rfl rfl, jm_pre hK hE hS hPc hDc hFc _⟩ rfl rfl hl.1 rfl (lv_room (Nat.le_of_ble_eq_true rfl)) dX10_costOf_37 ⟨Nat.zero_le _, Nat.zero_le _⟩) hS hP hD [0, 1, 2, 3, 4, 5, 6, 7, 8, 9] [] rfl rfl (by decide) (by decide) hFc (fun r_3 u_3 H_3 locs hw hP hD hS => ?_)
        have h := hw
        have hP : va_P D vwCl [(a_mo, .inr (10, [.int ma, .int md, .ref a_mo2, .ref a_mo3, .ref a_mo4, .ref a_mo5, .ref a_mo6, .ref a_mo7, .ref a_mo8, .int mq, .int mz, .ref a_mo11, .int msz, .int mat, .int mpl, .int mfa, .ref a_mo16, .int mth])), (a_mo2, .inl (cI, 1024, .inl mpic)), (a_mo3, .inl (cI, 1024, .inl mgiv)), (a_mo4, .inl (cI, 1024, .inl mkep)), (a_mo5, .inl (cI, 64, .inl mmod)), (a_mo6, .inl (cI, 1024, .inl mcoe)), (a_mo7, .inl (cI, 64, .inl mnmo)), (a_mo8, .inl (cI, 1024, .inl mnco)), (a_mo11, .inl (cI, 8000, .inl mby)), (a_mo16, .inl (cI, 16, .inl mwk))] H_3 := hP.sub [0, 1, 2, 3, 4, 5, 6, 7, 8, 9] rfl
        have hD : va_D A [(a_mo, .inr (10, [.int ma, .int md, .ref a_mo2, .ref a_mo3, .ref a_mo4, .ref a_mo5, .ref a_mo6, .ref a_mo7, .ref a_mo8, .int mq, .int mz, .ref a_mo11, .int msz, .int mat, .int mpl, .int mfa, .ref a_mo16, .int mth])), (a_mo2, .inl (cI, 1024, .inl mpic)), (a_mo3, .inl (cI, 1024, .inl mgiv)), (a_mo4, .inl (cI, 1024, .inl mkep)), (a_mo5, .inl (cI, 64, .inl mmod)), (a_mo6, .inl (cI, 1024, .inl mcoe)), (a_mo7, .inl (cI, 64, .inl mnmo)), (a_mo8, .inl (cI, 1024, .inl mnco)), (a_mo11, .inl (cI, 8000, .inl mby)), (a_mo16, .inl (cI, 16, .inl mwk))] := hD.sub [0, 1, 2, 3, 4, 5, 6, 7, 8, 9] (by decide) rfl
        refine lv_isub hx hb dX10_costOf_40 ?_
        have hPc := hP.sub (ws' := []) [] rfl
        have hDc := hD.sub (ws' := []) [] (by decide) rfl
        have hFc := va_free (wc := []) hD hS hA [] rfl
        refine jm_calli (wr := [(a_mo, .inr (10, [.int ma, .int md, .ref a_mo2, .ref a_mo3, .ref a_mo4, .ref a_mo5, .ref a_mo6, .ref a_mo7, .ref a_mo8, .int mq, .int mz, .ref a_mo11, .int msz, .int mat, .int mpl, .int mfa, .ref a_mo16, .int mth])), (a_mo2, .inl (cI, 1024, .inl mpic)), (a_mo3, .inl (cI, 1024, .inl mgiv)), (a_mo4, .inl (cI, 1024, .inl mkep)), (a_mo5, .inl (cI, 64, .inl mmod)), (a_mo6, .inl (cI, 1024, .inl mcoe)), (a_mo7, .inl (cI, 64, .inl mnmo)), (a_mo8, .inl (cI, 1024, .inl mnco)), (a_mo11, .inl (cI, 8000, .inl mby)), (a_mo16, .inl (cI, 16, .inl mwk))]) (va_runS (As := [.int (r_2 - r_3)]) (rest := [.int v3]) ⟨hx, hb, hml, hown, hts⟩ (c_X10_size l D cI cB tt H_3.size (r_2 - r_3) h) (va_cwS 1 hts (jm_gS mw_874 mw_875 mw_65 mw_876) rfl rfl rfl (by decide +kernel) ⟨Nat.le_of_ble_eq_true rfl, Nat.le_of_ble_eq_true rfl⟩) ⟨jm_blind, jm_pre hK hE hS hPc hDc hFc _⟩ rfl rfl hl.1 rfl (lv_room (Nat.le_of_ble_eq_true rfl)) dX10_costOf_41 ⟨Nat.zero_le _, Nat.zero_le _⟩) hS hP hD [] [0, 1, 2, 3, 4, 5, 6, 7, 8, 9] rfl rfl (by decide) (by decide) hFc (fun r_4 u_4 H_4 locs hw hP hD hS => ?_)
        have h := hw
        have hP : va_P D vwCl [(a_mo, .inr (10, [.int ma, .int md, .ref a_mo2, .ref a_mo3, .ref a_mo4, .ref a_mo5, .ref a_mo6, .ref a_mo7, .ref a_mo8, .int mq, .int mz, .ref a_mo11, .int msz, .int mat, .int mpl, .int mfa, .ref a_mo16, .int mth])), (a_mo2, .inl (cI, 1024, .inl mpic)), (a_mo3, .inl (cI, 1024, .inl mgiv)), (a_mo4, .inl (cI, 1024, .inl mkep)), (a_mo5, .inl (cI, 64, .inl mmod)), (a_mo6, .inl (cI, 1024, .inl mcoe)), (a_mo7, .inl (cI, 64, .inl mnmo)), (a_mo8, .inl (cI, 1024, .inl mnco)), (a_mo11, .inl (cI, 8000, .inl mby)), (a_mo16, .inl (cI, 16, .inl mwk))] H_4 := hP.sub [0, 1, 2, 3, 4, 5, 6, 7, 8, 9] rfl
        have hD : va_D A [(a_mo, .inr (10, [.int ma, .int md, .ref a_mo2, .ref a_mo3, .ref a_mo4, .ref a_mo5, .ref a_mo6, .ref a_mo7, .ref a_mo8, .int mq, .int mz, .ref a_mo11, .int msz, .int mat, .int mpl, .int mfa, .ref a_mo16, .int mth])), (a_mo2, .inl (cI, 1024, .inl mpic)), (a_mo3, .inl (cI, 1024, .inl mgiv)), (a_mo4, .inl (cI, 1024, .inl mkep)), (a_mo5, .inl (cI, 64, .inl mmod)), (a_mo6, .inl (cI, 1024, .inl mcoe)), (a_mo7, .inl (cI, 64, .inl mnmo)), (a_mo8, .inl (cI, 1024, .inl mnco)), (a_mo11, .inl (cI, 8000, .inl mby)), (a_mo16, .inl (cI, 16, .inl mwk))] := hD.sub [0, 1, 2, 3, 4, 5, 6, 7, 8, 9] (by decide) rfl
        refine lv_iadd hx hb dX10_costOf_44 ?_
        refine lv_topi (fun x3_5 ex3_5 => ?_)
        have h := h x3_5 ex3_5
        refine lv_istore_n (lv' := [(3, .int x3_5), (0, .ref a_mo), (1, .int v1), (2, .int v2), (4, .int v4)]) hx hb dX10_costOf_45 rfl hl (by decide) rfl (fun ls hl => ?_)
        obtain ⟨x4_6, ex4_6⟩ : ∃ y : Int32, y = v4 + 1 := ⟨_, rfl⟩
        have h := h x4_6 ex4_6
        refine lv_iinc (v := x4_6) (lv' := [(4, .int x4_6), (3, .int x3_5), (0, .ref a_mo), (1, .int v1), (2, .int v2)]) hx hb dX10_costOf_46 hl (k := 4) rfl (by rw [ex4_6]; rfl) (by decide) rfl (fun ls hl => ?_)
        refine lv_goto (tgt := 5) hx hb dX10_costOf_49 (by decide) ?_
        exact ih x3_5 x4_6 H_4 _ _ h hP hD hS (lv_sub hl [2, 3, 4, 1, 0] rfl)
  refine hL_7 v1 v2 _ ?_ n_7 0 0 s.heap _ _ h hP hD hS (lv_sub hl [2, 3, 4, 1, 0] rfl)
  intro v3_7 v4_7 H locs ls h hP hD hS hl
  refine lv_iload_n hx hb dX10_costOf_52 rfl (lv_at hl 3 rfl) ?_
  exact hret v3_7 () _ _ _ _ dX10_costOf_53 (vp_nar_int _) h hP hD hS
def wl_X10_goForth_3 (v1 : Int32) (v2 : Int32) (ma : Int32) (mpic : (Nat → Int32)) (mgiv : (Nat → Int32)) (K : (Nat → Int32) → (Nat → Int32) → Prop) (X : Int32 → (Nat → Int32) → Prop) : Nat → Int32 → (Nat → Int32) → Prop
  | 0, _, _ => False
  | n + 1, v4, mwk => ((16 ≤ v4 → X v4 mwk) ∧ (¬ 16 ≤ v4 → wp_X10_givenAt ma mgiv v1 (jrem v4 4) (v4 / 4) (fun (r_2 : Int32) => wp_X10_told ma mpic v1 v2 (jrem v4 4) (v4 / 4) (fun (r_3 : Int32) => vp_in v4 16 ∧ ∀ x4_6 : Int32, x4_6 = v4 + 1 → wl_X10_goForth_3 v1 v2 ma mpic mgiv K X n x4_6 (jup mwk v4 (r_2 - r_3))))))
def wl_X10_goForth_54 (K : (Nat → Int32) → (Nat → Int32) → Prop) (X : Int32 → (Nat → Int32) → Prop) : Nat → Int32 → (Nat → Int32) → Prop
  | 0, _, _ => False
  | n + 1, v4, mwk => ((4 ≤ v4 → X v4 mwk) ∧ (¬ 4 ≤ v4 → wp_X10_forthLine mwk (4 * v4) 1 (fun (mwk_9 : (Nat → Int32)) => ∀ x4_10 : Int32, x4_10 = v4 + 1 → wl_X10_goForth_54  K X n x4_10 mwk_9)))
def wl_X10_goForth_78 (K : (Nat → Int32) → (Nat → Int32) → Prop) (X : Int32 → (Nat → Int32) → Prop) : Nat → Int32 → (Nat → Int32) → Prop
  | 0, _, _ => False
  | n + 1, v4, mwk => ((4 ≤ v4 → X v4 mwk) ∧ (¬ 4 ≤ v4 → wp_X10_forthLine mwk v4 4 (fun (mwk_13 : (Nat → Int32)) => ∀ x4_14 : Int32, x4_14 = v4 + 1 → wl_X10_goForth_78  K X n x4_14 mwk_13)))
def wl_X10_goForth_104 (v3 : Int32) (K : (Nat → Int32) → (Nat → Int32) → Prop) (X : Int32 → Int32 → Prop) : Nat → Int32 → Int32 → Prop
  | 0, _, _ => False
  | n + 1, v4, v5 => (((v3 / 6) ≤ v5 → X v4 v5) ∧ (¬ (v3 / 6) ≤ v5 → ∀ x4_17 : Int32, x4_17 = 2 * v4 → ∀ x5_18 : Int32, x5_18 = v5 + 1 → wl_X10_goForth_104 v3 K X n x4_17 x5_18))
def wl_X10_goForth_128 (v1 : Int32) (v3 : Int32) (v4 : Int32) (mwk : (Nat → Int32)) (K : (Nat → Int32) → (Nat → Int32) → Prop) (X : Int32 → (Nat → Int32) → Prop) : Nat → Int32 → (Nat → Int32) → Prop
  | 0, _, _ => False
  | n + 1, v5, mcoe => ((16 ≤ v5 → X v5 mcoe) ∧ (¬ 16 ≤ v5 → wp_X10_placeOf v5 (fun (r_21 : Int32) => vp_in r_21 16 ∧ wp_X10_size (jat mwk r_21) (fun (r_23 : Int32) => wp_X10_forthBy v3 (jrem r_21 4) (r_21 / 4) (fun (r_24 : Int32) => ¬ ((v4 : Int32).toInt64) = 0 ∧ ∀ x7_26 : Int32, x7_26 = (((((r_23 : Int32).toInt64) * ((r_24 : Int32).toInt64)) + ((v4 / 3 : Int32).toInt64)) / ((v4 : Int32).toInt64)).toInt32 → vp_in r_21 16 ∧ jn1 (fun (t0_28 : Int32) => vp_in ((16 * v1) + v5) 1024 ∧ ∀ x5_31 : Int32, x5_31 = v5 + 1 → wl_X10_goForth_128 v1 v3 v4 mwk K X n x5_31 (jup mcoe ((16 * v1) + v5) t0_28)) (fun J_28 => ((0 ≤ (jat mwk r_21) → J_28 x7_26) ∧ (¬ 0 ≤ (jat mwk r_21) → J_28 (-x7_26)))))))))
def wp_X10_goForth (ma : Int32) (mpic : (Nat → Int32)) (mgiv : (Nat → Int32)) (mcoe : (Nat → Int32)) (mwk : (Nat → Int32)) (v1 v2 v3 : Int32) (K : (Nat → Int32) → (Nat → Int32) → Prop) : Prop := ∃ k : Nat, wl_X10_goForth_3 v1 v2 ma mpic mgiv K (fun (v4_7 : Int32) (mwk_7 : (Nat → Int32)) => ∃ k : Nat, wl_X10_goForth_54  K (fun (v4_11 : Int32) (mwk_11 : (Nat → Int32)) => ∃ k : Nat, wl_X10_goForth_78  K (fun (v4_15 : Int32) (mwk_15 : (Nat → Int32)) => ∃ k : Nat, wl_X10_goForth_104 v3 K (fun (v4_19 : Int32) (v5_19 : Int32) => ∃ k : Nat, wl_X10_goForth_128 v1 v3 v4_19 mwk_15 K (fun (v5_33 : Int32) (mcoe_33 : (Nat → Int32)) => K mcoe_33 mwk_15) k 0 mcoe) k 32768 0) k 0 mwk_11) k 0 mwk_7) k 0 mwk
abbrev jw_X10_goForth : List Cond := .code yX10_goForth cX10_goForth 8 none :: jmAll
abbrev rmX10_goForth : Room := { frames := 4, cells := 0, slots := 0, locals := 98 }
set_option maxHeartbeats 4000000 in
set_option maxRecDepth 100000 in
theorem c_X10_goForth (l : Launch) (D : va_G) (cI cB : ClassId) (tt : Nat × Nat × Nat) (a_mo a_mo2 a_mo3 a_mo4 a_mo5 a_mo6 a_mo7 a_mo8 a_mo11 a_mo16 : Nat) (sz : Nat) (ma : Int32) (md : Int32) (mq : Int32) (mz : Int32) (msz : Int32) (mat : Int32) (mpl : Int32) (mfa : Int32) (mth : Int32) (mpic : (Nat → Int32)) (mgiv : (Nat → Int32)) (mkep : (Nat → Int32)) (mmod : (Nat → Int32)) (mcoe : (Nat → Int32)) (mnmo : (Nat → Int32)) (mnco : (Nat → Int32)) (mby : (Nat → Int32)) (mwk : (Nat → Int32)) (v1 v2 v3 : Int32) {K : (Nat → Int32) → (Nat → Int32) → Prop} (h : wp_X10_goForth ma mpic mgiv mcoe mwk v1 v2 v3 K) : Met l yX10_goForth jw_X10_goForth rmX10_goForth (va_Pc [.ref a_mo, .int v1, .int v2, .int v3] (jm_Pre D cI cB tt (wd_mo_mo2_mo3_mo4_mo5_mo6_mo7_mo8_mo11_mo16 cI cB a_mo a_mo2 a_mo3 a_mo4 a_mo5 a_mo6 a_mo7 a_mo8 a_mo11 a_mo16 ma md mq mz msz mat mpl mfa mth mpic mgiv mkep mmod mcoe mnmo mnco mby mwk) sz)) (va_Qv (fun (u : (Nat → Int32) × (Nat → Int32)) => pr2 K u) (jm_Post D cI cB (wd_mo_mo2_mo3_mo4_mo5_mo6_mo7_mo8_mo11_mo16 cI cB a_mo a_mo2 a_mo3 a_mo4 a_mo5 a_mo6 a_mo7 a_mo8 a_mo11 a_mo16 ma md mq mz msz mat mpl mfa mth mpic mgiv mkep mmod mcoe mnmo mnco mby mwk) sz (fun (u : (Nat → Int32) × (Nat → Int32)) => wd_mo_mo2_mo3_mo4_mo5_mo6_mo7_mo8_mo11_mo16 cI cB a_mo a_mo2 a_mo3 a_mo4 a_mo5 a_mo6 a_mo7 a_mo8 a_mo11 a_mo16 ma md mq mz msz mat mpl mfa mth mpic mgiv mkep mmod u.1 mnmo mnco mby u.2)) (va_A (wd_mo_mo2_mo3_mo4_mo5_mo6_mo7_mo8_mo11_mo16 cI cB a_mo a_mo2 a_mo3 a_mo4 a_mo5 a_mo6 a_mo7 a_mo8 a_mo11 a_mo16 ma md mq mz msz mat mpl mfa mth mpic mgiv mkep mmod mcoe mnmo mnco mby mwk) sz)) 0 0 (va_A (wd_mo_mo2_mo3_mo4_mo5_mo6_mo7_mo8_mo11_mo16 cI cB a_mo a_mo2 a_mo3 a_mo4 a_mo5 a_mo6 a_mo7 a_mo8 a_mo11 a_mo16 ma md mq mz msz mat mpl mfa mth mpic mgiv mkep mmod mcoe mnmo mnco mby mwk) sz) := by
  refine jm_metV (by decide +kernel) rfl rfl (Nat.le_of_ble_eq_true rfl) ?_
  intro p e s m args below meth c A Q ls C0 hP hD hl hret
  obtain ⟨hx, hb, hml, hr, hown, hts, hlocks, hA, hK, hE⟩ := C0
  have hS : va_S A s.heap s.heap [] := va_S.rf
  have hl : lv_has ls 8 [(0, .ref a_mo), (1, .int v1), (2, .int v2), (3, .int v3)] := hl
  unfold wp_X10_goForth at h
  have hP : va_P D vwCl [(a_mo, .inr (10, [.int ma, .int md, .ref a_mo2, .ref a_mo3, .ref a_mo4, .ref a_mo5, .ref a_mo6, .ref a_mo7, .ref a_mo8, .int mq, .int mz, .ref a_mo11, .int msz, .int mat, .int mpl, .int mfa, .ref a_mo16, .int mth])), (a_mo2, .inl (cI, 1024, .inl mpic)), (a_mo3, .inl (cI, 1024, .inl mgiv)), (a_mo4, .inl (cI, 1024, .inl mkep)), (a_mo5, .inl (cI, 64, .inl mmod)), (a_mo6, .inl (cI, 1024, .inl mcoe)), (a_mo7, .inl (cI, 64, .inl mnmo)), (a_mo8, .inl (cI, 1024, .inl mnco)), (a_mo11, .inl (cI, 8000, .inl mby)), (a_mo16, .inl (cI, 16, .inl mwk))] s.heap := hP
  have hD : va_D A [(a_mo, .inr (10, [.int ma, .int md, .ref a_mo2, .ref a_mo3, .ref a_mo4, .ref a_mo5, .ref a_mo6, .ref a_mo7, .ref a_mo8, .int mq, .int mz, .ref a_mo11, .int msz, .int mat, .int mpl, .int mfa, .ref a_mo16, .int mth])), (a_mo2, .inl (cI, 1024, .inl mpic)), (a_mo3, .inl (cI, 1024, .inl mgiv)), (a_mo4, .inl (cI, 1024, .inl mkep)), (a_mo5, .inl (cI, 64, .inl mmod)), (a_mo6, .inl (cI, 1024, .inl mcoe)), (a_mo7, .inl (cI, 64, .inl mnmo)), (a_mo8, .inl (cI, 1024, .inl mnco)), (a_mo11, .inl (cI, 8000, .inl mby)), (a_mo16, .inl (cI, 16, .inl mwk))] := hD
  have iX10 : ∀ w ∈ wsX100, w ∈ jw_X10_goForth := fun w h => List.mem_cons_of_mem _ (jm_iX10 w h)
  have lk29 := hts (.fieldLink RX10 29 "IntraMillModel" "coefficients" "[I") (List.mem_cons_of_mem _ mw_740)
  have lk44 := hts (.fieldLink RX10 44 "IntraMillModel" "work" "[I") (List.mem_cons_of_mem _ mw_750)
  refine lv_iconst (v := 0) hx hb dX10_goForth_0 (by decide) ?_
  refine lv_istore (lv' := [(4, .int 0), (0, .ref a_mo), (1, .int v1), (2, .int v2), (3, .int v3)]) hx hb dX10_goForth_1 hl (by decide) rfl (fun ls hl => ?_)
  obtain ⟨n_7, h⟩ := h
  have hL_7 : ∀ (v1 : Int32) (v2 : Int32) (v3 : Int32) (mcoe : (Nat → Int32)) (X : Int32 → (Nat → Int32) → Prop), (∀ (v4 : Int32) (mwk : (Nat → Int32)), ∀ (H : Heap) (locs : List Loc) (ls : Array Slot), X v4 mwk → va_P D vwCl [(a_mo, .inr (10, [.int ma, .int md, .ref a_mo2, .ref a_mo3, .ref a_mo4, .ref a_mo5, .ref a_mo6, .ref a_mo7, .ref a_mo8, .int mq, .int mz, .ref a_mo11, .int msz, .int mat, .int mpl, .int mfa, .ref a_mo16, .int mth])), (a_mo2, .inl (cI, 1024, .inl mpic)), (a_mo3, .inl (cI, 1024, .inl mgiv)), (a_mo4, .inl (cI, 1024, .inl mkep)), (a_mo5, .inl (cI, 64, .inl mmod)), (a_mo6, .inl (cI, 1024, .inl mcoe)), (a_mo7, .inl (cI, 64, .inl mnmo)), (a_mo8, .inl (cI, 1024, .inl mnco)), (a_mo11, .inl (cI, 8000, .inl mby)), (a_mo16, .inl (cI, 16, .inl mwk))] H → va_D A [(a_mo, .inr (10, [.int ma, .int md, .ref a_mo2, .ref a_mo3, .ref a_mo4, .ref a_mo5, .ref a_mo6, .ref a_mo7, .ref a_mo8, .int mq, .int mz, .ref a_mo11, .int msz, .int mat, .int mpl, .int mfa, .ref a_mo16, .int mth])), (a_mo2, .inl (cI, 1024, .inl mpic)), (a_mo3, .inl (cI, 1024, .inl mgiv)), (a_mo4, .inl (cI, 1024, .inl mkep)), (a_mo5, .inl (cI, 64, .inl mmod)), (a_mo6, .inl (cI, 1024, .inl mcoe)), (a_mo7, .inl (cI, 64, .inl mnmo)), (a_mo8, .inl (cI, 1024, .inl mnco)), (a_mo11, .inl (cI, 8000, .inl mby)), (a_mo16, .inl (cI, 16, .inl mwk))] → va_S A s.heap H locs → lv_has ls 8 [(0, .ref a_mo), (1, .int v1), (2, .int v2), (3, .int v3), (4, .int v4)] → W p l e rmX10_goForth s m args below meth c H locs 0 0 Q (F0 m 51 ls [])) → ∀ (n : Nat) (v4 : Int32) (mwk : (Nat → Int32)), ∀ (H : Heap) (locs : List Loc) (ls : Array Slot), wl_X10_goForth_3 v1 v2 ma mpic mgiv K X n v4 mwk → va_P D vwCl [(a_mo, .inr (10, [.int ma, .int md, .ref a_mo2, .ref a_mo3, .ref a_mo4, .ref a_mo5, .ref a_mo6, .ref a_mo7, .ref a_mo8, .int mq, .int mz, .ref a_mo11, .int msz, .int mat, .int mpl, .int mfa, .ref a_mo16, .int mth])), (a_mo2, .inl (cI, 1024, .inl mpic)), (a_mo3, .inl (cI, 1024, .inl mgiv)), (a_mo4, .inl (cI, 1024, .inl mkep)), (a_mo5, .inl (cI, 64, .inl mmod)), (a_mo6, .inl (cI, 1024, .inl mcoe)), (a_mo7, .inl (cI, 64, .inl mnmo)), (a_mo8, .inl (cI, 1024, .inl mnco)), (a_mo11, .inl (cI, 8000, .inl mby)), (a_mo16, .inl (cI, 16, .inl mwk))] H → va_D A [(a_mo, .inr (10, [.int ma, .int md, .ref a_mo2, .ref a_mo3, .ref a_mo4, .ref a_mo5, .ref a_mo6, .ref a_mo7, .ref a_mo8, .int mq, .int mz, .ref a_mo11, .int msz, .int mat, .int mpl, .int mfa, .ref a_mo16, .int mth])), (a_mo2, .inl (cI, 1024, .inl mpic)), (a_mo3, .inl (cI, 1024, .inl mgiv)), (a_mo4, .inl (cI, 1024, .inl mkep)), (a_mo5, .inl (cI, 64, .inl mmod)), (a_mo6, .inl (cI, 1024, .inl mcoe)), (a_mo7, .inl (cI, 64, .inl mnmo)), (a_mo8, .inl (cI, 1024, .inl mnco)), (a_mo11, .inl (cI, 8000, .inl mby)), (a_mo16, .inl (cI, 16, .inl mwk))] → va_S A s.heap H locs → lv_has ls 8 [(0, .ref a_mo), (1, .int v1), (2, .int v2), (3, .int v3), (4, .int v4)] → W p l e rmX10_goForth s m args below meth c H locs 0 0 Q (F0 m 3 ls []) := by
    intro v1 v2 v3 mcoe X hX n
    induction n with
    | zero => intro v4 mwk H locs ls h; rw [wl_X10_goForth_3] at h; exact h.elim
    | succ n ih =>
      intro v4 mwk H locs ls h hP hD hS hl
      rw [wl_X10_goForth_3] at h
      refine lv_iload hx hb dX10_goForth_3 (lv_at hl 4 rfl) ?_
      refine lv_bipush (v := 16) hx hb dX10_goForth_5 (by decide) ?_
      refine lv_icmp_ge (tgt := 51) hx hb dX10_goForth_7 (by decide) (fun c_1 => ?_) (fun c_1 => ?_)
      · have h := h.1 c_1
        exact hX v4 mwk H _ _ h hP hD hS (lv_sub hl [0, 1, 2, 3, 4] rfl)
      · have h := h.2 c_1
        refine lv_aload_n hx hb dX10_goForth_10 rfl (lv_at hl 0 rfl) ?_
        refine va_get (D := D) (ci := 10) (v := .ref a_mo16) (C := RX10) (T := TX10) (N := 18) hx hb hts iX10 hown hK hP 0 rfl rfl 16 (by decide) lk44 (fun _ h9 => h9) rfl dX10_goForth_11 ?_
        refine lv_iload hx hb dX10_goForth_14 (lv_at hl 4 rfl) ?_
        refine lv_aload_n hx hb dX10_goForth_16 rfl (lv_at hl 0 rfl) ?_
        refine lv_iload_n hx hb dX10_goForth_17 rfl (lv_at hl 1 rfl) ?_
        refine lv_iload hx hb dX10_goForth_18 (lv_at hl 4 rfl) ?_
        refine lv_iconst (v := 4) hx hb dX10_goForth_20 (by decide) ?_
        refine lv_irem hx hb dX10_goForth_21 (by decide) ?_
        refine lv_iload hx hb dX10_goForth_22 (lv_at hl 4 rfl) ?_
        refine lv_iconst (v := 4) hx hb dX10_goForth_24 (by decide) ?_
        refine lv_idiv hx hb dX10_goForth_25 (by decide) ?_
        have hPc := hP.sub (ws' := [(a_mo, .inr (10, [.int ma, .int md, .ref a_mo2, .ref a_mo3, .ref a_mo4, .ref a_mo5, .ref a_mo6, .ref a_mo7, .ref a_mo8, .int mq, .int mz, .ref a_mo11, .int msz, .int mat, .int mpl, .int mfa, .ref a_mo16, .int mth])), (a_mo2, .inl (cI, 1024, .inl mpic)), (a_mo3, .inl (cI, 1024, .inl mgiv)), (a_mo4, .inl (cI, 1024, .inl mkep)), (a_mo5, .inl (cI, 64, .inl mmod)), (a_mo6, .inl (cI, 1024, .inl mcoe)), (a_mo7, .inl (cI, 64, .inl mnmo)), (a_mo8, .inl (cI, 1024, .inl mnco)), (a_mo11, .inl (cI, 8000, .inl mby)), (a_mo16, .inl (cI, 16, .inl mwk))]) [0, 1, 2, 3, 4, 5, 6, 7, 8, 9] rfl
        have hDc := hD.sub (ws' := [(a_mo, .inr (10, [.int ma, .int md, .ref a_mo2, .ref a_mo3, .ref a_mo4, .ref a_mo5, .ref a_mo6, .ref a_mo7, .ref a_mo8, .int mq, .int mz, .ref a_mo11, .int msz, .int mat, .int mpl, .int mfa, .ref a_mo16, .int mth])), (a_mo2, .inl (cI, 1024, .inl mpic)), (a_mo3, .inl (cI, 1024, .inl mgiv)), (a_mo4, .inl (cI, 1024, .inl mkep)), (a_mo5, .inl (cI, 64, .inl mmod)), (a_mo6, .inl (cI, 1024, .inl mcoe)), (a_mo7, .inl (cI, 64, .inl mnmo)), (a_mo8, .inl (cI, 1024, .inl mnco)), (a_mo11, .inl (cI, 8000, .inl mby)), (a_mo16, .inl (cI, 16, .inl mwk))]) [0, 1, 2, 3, 4, 5, 6, 7, 8, 9] (by decide) rfl
        have hFc := va_free (wc := [(a_mo, .inr (10, [.int ma, .int md, .ref a_mo2, .ref a_mo3, .ref a_mo4, .ref a_mo5, .ref a_mo6, .ref a_mo7, .ref a_mo8, .int mq, .int mz, .ref a_mo11, .int msz, .int mat, .int mpl, .int mfa, .ref a_mo16, .int mth])), (a_mo2, .inl (cI, 1024, .inl mpic)), (a_mo3, .inl (cI, 1024, .inl mgiv)), (a_mo4, .inl (cI, 1024, .inl mkep)), (a_mo5, .inl (cI, 64, .inl mmod)), (a_mo6, .inl (cI, 1024, .inl mcoe)), (a_mo7, .inl (cI, 64, .inl mnmo)), (a_mo8, .inl (cI, 1024, .inl mnco)), (a_mo11, .inl (cI, 8000, .inl mby)), (a_mo16, .inl (cI, 16, .inl mwk))]) hD hS hA [0, 1, 2, 3, 4, 5, 6, 7, 8, 9] rfl
        refine jm_calli (wr := []) (va_runV (As := [.int v1, .int (jrem v4 4), .int (v4 / 4)]) (rest := [.int v4, .ref a_mo16]) ⟨hx, hb, hml, hown, hts⟩ (c_X10_givenAt l D cI cB tt a_mo a_mo2 a_mo3 a_mo4 a_mo5 a_mo6 a_mo7 a_mo8 a_mo11 a_mo16 H.size ma md mq mz msz mat mpl mfa mth mpic mgiv mkep mmod mcoe mnmo mnco mby mwk v1 (jrem v4 4) (v4 / 4) h) (cwV 3 hts (jm_gV mw_840 mw_842 mw_32 mw_65 mw_843) rfl rfl rfl (by decide +kernel) ⟨Nat.le_of_ble_eq_true rfl, Nat.le_of_ble_eq_true rfl⟩) ⟨jm_blind, va_recv hK hPc (ci := 10) (q0 := 0) rfl rfl, jm_pre hK hE hS hPc hDc hFc _⟩ rfl rfl hl.1 rfl (lv_room (Nat.le_of_ble_eq_true rfl)) dX10_goForth_26 ⟨Nat.zero_le _, Nat.zero_le _⟩) hS hP hD [0, 1, 2, 3, 4, 5, 6, 7, 8, 9] [] rfl rfl (by decide) (by decide) hFc (fun r_2 u_2 H_2 locs hw hP hD hS => ?_)
        have h := hw
        have hP : va_P D vwCl [(a_mo, .inr (10, [.int ma, .int md, .ref a_mo2, .ref a_mo3, .ref a_mo4, .ref a_mo5, .ref a_mo6, .ref a_mo7, .ref a_mo8, .int mq, .int mz, .ref a_mo11, .int msz, .int mat, .int mpl, .int mfa, .ref a_mo16, .int mth])), (a_mo2, .inl (cI, 1024, .inl mpic)), (a_mo3, .inl (cI, 1024, .inl mgiv)), (a_mo4, .inl (cI, 1024, .inl mkep)), (a_mo5, .inl (cI, 64, .inl mmod)), (a_mo6, .inl (cI, 1024, .inl mcoe)), (a_mo7, .inl (cI, 64, .inl mnmo)), (a_mo8, .inl (cI, 1024, .inl mnco)), (a_mo11, .inl (cI, 8000, .inl mby)), (a_mo16, .inl (cI, 16, .inl mwk))] H_2 := hP.sub [0, 1, 2, 3, 4, 5, 6, 7, 8, 9] rfl
        have hD : va_D A [(a_mo, .inr (10, [.int ma, .int md, .ref a_mo2, .ref a_mo3, .ref a_mo4, .ref a_mo5, .ref a_mo6, .ref a_mo7, .ref a_mo8, .int mq, .int mz, .ref a_mo11, .int msz, .int mat, .int mpl, .int mfa, .ref a_mo16, .int mth])), (a_mo2, .inl (cI, 1024, .inl mpic)), (a_mo3, .inl (cI, 1024, .inl mgiv)), (a_mo4, .inl (cI, 1024, .inl mkep)), (a_mo5, .inl (cI, 64, .inl mmod)), (a_mo6, .inl (cI, 1024, .inl mcoe)), (a_mo7, .inl (cI, 64, .inl mnmo)), (a_mo8, .inl (cI, 1024, .inl mnco)), (a_mo11, .inl (cI, 8000, .inl mby)), (a_mo16, .inl (cI, 16, .inl mwk))] := hD.sub [0, 1, 2, 3, 4, 5, 6, 7, 8, 9] (by decide) rfl
        refine lv_aload_n hx hb dX10_goForth_29 rfl (lv_at hl 0 rfl) ?_
        refine lv_iload_n hx hb dX10_goForth_30 rfl (lv_at hl 1 rfl) ?_
        refine lv_iload_n hx hb dX10_goForth_31 rfl (lv_at hl 2 rfl) ?_
        refine lv_iload hx hb dX10_goForth_32 (lv_at hl 4 rfl) ?_
        refine lv_iconst (v := 4) hx hb dX10_goForth_34 (by decide) ?_
        refine lv_irem hx hb dX10_goForth_35 (by decide) ?_
        refine lv_iload hx hb dX10_goForth_36 (lv_at hl 4 rfl) ?_
        refine lv_iconst (v := 4) hx hb dX10_goForth_38 (by decide) ?_
        refine lv_idiv hx hb dX10_goForth_39 (by decide) ?_
        have hPc := hP.sub (ws' := [(a_mo, .inr (10, [.int ma, .int md, .ref a_mo2, .ref a_mo3, .ref a_mo4, .ref a_mo5, .ref a_mo6, .ref a_mo7, .ref a_mo8, .int mq, .int mz, .ref a_mo11, .int msz, .int mat, .int mpl, .int mfa, .ref a_mo16, .int mth])), (a_mo2, .inl (cI, 1024, .inl mpic)), (a_mo3, .inl (cI, 1024, .inl mgiv)), (a_mo4, .inl (cI, 1024, .inl mkep)), (a_mo5, .inl (cI, 64, .inl mmod)), (a_mo6, .inl (cI, 1024, .inl mcoe)), (a_mo7, .inl (cI, 64, .inl mnmo)), (a_mo8, .inl (cI, 1024, .inl mnco)), (a_mo11, .inl (cI, 8000, .inl mby)), (a_mo16, .inl (cI, 16, .inl mwk))]) [0, 1, 2, 3, 4, 5, 6, 7, 8, 9] rfl
        have hDc := hD.sub (ws' := [(a_mo, .inr (10, [.int ma, .int md, .ref a_mo2, .ref a_mo3, .ref a_mo4, .ref a_mo5, .ref a_mo6, .ref a_mo7, .ref a_mo8, .int mq, .int mz, .ref a_mo11, .int msz, .int mat, .int mpl, .int mfa, .ref a_mo16, .int mth])), (a_mo2, .inl (cI, 1024, .inl mpic)), (a_mo3, .inl (cI, 1024, .inl mgiv)), (a_mo4, .inl (cI, 1024, .inl mkep)), (a_mo5, .inl (cI, 64, .inl mmod)), (a_mo6, .inl (cI, 1024, .inl mcoe)), (a_mo7, .inl (cI, 64, .inl mnmo)), (a_mo8, .inl (cI, 1024, .inl mnco)), (a_mo11, .inl (cI, 8000, .inl mby)), (a_mo16, .inl (cI, 16, .inl mwk))]) [0, 1, 2, 3, 4, 5, 6, 7, 8, 9] (by decide) rfl
        have hFc := va_free (wc := [(a_mo, .inr (10, [.int ma, .int md, .ref a_mo2, .ref a_mo3, .ref a_mo4, .ref a_mo5, .ref a_mo6, .ref a_mo7, .ref a_mo8, .int mq, .int mz, .ref a_mo11, .int msz, .int mat, .int mpl, .int mfa, .ref a_mo16, .int mth])), (a_mo2, .inl (cI, 1024, .inl mpic)), (a_mo3, .inl (cI, 1024, .inl mgiv)), (a_mo4, .inl (cI, 1024, .inl mkep)), (a_mo5, .inl (cI, 64, .inl mmod)), (a_mo6, .inl (cI, 1024, .inl mcoe)), (a_mo7, .inl (cI, 64, .inl mnmo)), (a_mo8, .inl (cI, 1024, .inl mnco)), (a_mo11, .inl (cI, 8000, .inl mby)), (a_mo16, .inl (cI, 16, .inl mwk))]) hD hS hA [0, 1, 2, 3, 4, 5, 6, 7, 8, 9] rfl
        refine jm_calli (wr := []) (va_runV (As := [.int v1, .int v2, .int (jrem v4 4), .int (v4 / 4)]) (rest := [.int r_2, .int v4, .ref a_mo16]) ⟨hx, hb, hml, hown, hts⟩ (c_X10_told l D cI cB tt a_mo a_mo2 a_mo3 a_mo4 a_mo5 a_mo6 a_mo7 a_mo8 a_mo11 a_mo16 H_2.size ma md mq mz msz mat mpl mfa mth mpic mgiv mkep mmod mcoe mnmo mnco mby mwk v1 v2 (jrem v4 4) (v4 / 4) h) (cwV 4 hts (jm_gV mw_844 mw_846 mw_33 mw_65 mw_847) rfl rfl rfl (by decide +kernel) ⟨Nat.le_of_ble_eq_true rfl, Nat.le_of_ble_eq_true rfl⟩) ⟨jm_blind, va_recv hK hPc (ci := 10) (q0 := 0) rfl rfl, jm_pre hK hE hS hPc hDc hFc _⟩ rfl rfl hl.1 rfl (lv_room (Nat.le_of_ble_eq_true rfl)) dX10_goForth_40 ⟨Nat.zero_le _, Nat.zero_le _⟩) hS hP hD [0, 1, 2, 3, 4, 5, 6, 7, 8, 9] [] rfl rfl (by decide) (by decide) hFc (fun r_3 u_3 H_3 locs hw hP hD hS => ?_)
        have h := hw
        have hP : va_P D vwCl [(a_mo, .inr (10, [.int ma, .int md, .ref a_mo2, .ref a_mo3, .ref a_mo4, .ref a_mo5, .ref a_mo6, .ref a_mo7, .ref a_mo8, .int mq, .int mz, .ref a_mo11, .int msz, .int mat, .int mpl, .int mfa, .ref a_mo16, .int mth])), (a_mo2, .inl (cI, 1024, .inl mpic)), (a_mo3, .inl (cI, 1024, .inl mgiv)), (a_mo4, .inl (cI, 1024, .inl mkep)), (a_mo5, .inl (cI, 64, .inl mmod)), (a_mo6, .inl (cI, 1024, .inl mcoe)), (a_mo7, .inl (cI, 64, .inl mnmo)), (a_mo8, .inl (cI, 1024, .inl mnco)), (a_mo11, .inl (cI, 8000, .inl mby)), (a_mo16, .inl (cI, 16, .inl mwk))] H_3 := hP.sub [0, 1, 2, 3, 4, 5, 6, 7, 8, 9] rfl
        have hD : va_D A [(a_mo, .inr (10, [.int ma, .int md, .ref a_mo2, .ref a_mo3, .ref a_mo4, .ref a_mo5, .ref a_mo6, .ref a_mo7, .ref a_mo8, .int mq, .int mz, .ref a_mo11, .int msz, .int mat, .int mpl, .int mfa, .ref a_mo16, .int mth])), (a_mo2, .inl (cI, 1024, .inl mpic)), (a_mo3, .inl (cI, 1024, .inl mgiv)), (a_mo4, .inl (cI, 1024, .inl mkep)), (a_mo5, .inl (cI, 64, .inl mmod)), (a_mo6, .inl (cI, 1024, .inl mcoe)), (a_mo7, .inl (cI, 64, .inl mnmo)), (a_mo8, .inl (cI, 1024, .inl mnco)), (a_mo11, .inl (cI, 8000, .inl mby)), (a_mo16, .inl (cI, 16, .inl mwk))] := hD.sub [0, 1, 2, 3, 4, 5, 6, 7, 8, 9] (by decide) rfl
        refine lv_isub hx hb dX10_goForth_43 ?_
        obtain ⟨hi_4, h⟩ := h
        refine va_iast hx hb hK hP hD hS 9 0 rfl rfl hi_4 dX10_goForth_44 (fun H_5 locs hP hD hS => ?_)
        have hP : va_P D vwCl [(a_mo, .inr (10, [.int ma, .int md, .ref a_mo2, .ref a_mo3, .ref a_mo4, .ref a_mo5, .ref a_mo6, .ref a_mo7, .ref a_mo8, .int mq, .int mz, .ref a_mo11, .int msz, .int mat, .int mpl, .int mfa, .ref a_mo16, .int mth])), (a_mo2, .inl (cI, 1024, .inl mpic)), (a_mo3, .inl (cI, 1024, .inl mgiv)), (a_mo4, .inl (cI, 1024, .inl mkep)), (a_mo5, .inl (cI, 64, .inl mmod)), (a_mo6, .inl (cI, 1024, .inl mcoe)), (a_mo7, .inl (cI, 64, .inl mnmo)), (a_mo8, .inl (cI, 1024, .inl mnco)), (a_mo11, .inl (cI, 8000, .inl mby)), (a_mo16, .inl (cI, 16, .inl (jup mwk v4 (r_2 - r_3))))] H_5 := hP
        have hD : va_D A [(a_mo, .inr (10, [.int ma, .int md, .ref a_mo2, .ref a_mo3, .ref a_mo4, .ref a_mo5, .ref a_mo6, .ref a_mo7, .ref a_mo8, .int mq, .int mz, .ref a_mo11, .int msz, .int mat, .int mpl, .int mfa, .ref a_mo16, .int mth])), (a_mo2, .inl (cI, 1024, .inl mpic)), (a_mo3, .inl (cI, 1024, .inl mgiv)), (a_mo4, .inl (cI, 1024, .inl mkep)), (a_mo5, .inl (cI, 64, .inl mmod)), (a_mo6, .inl (cI, 1024, .inl mcoe)), (a_mo7, .inl (cI, 64, .inl mnmo)), (a_mo8, .inl (cI, 1024, .inl mnco)), (a_mo11, .inl (cI, 8000, .inl mby)), (a_mo16, .inl (cI, 16, .inl (jup mwk v4 (r_2 - r_3))))] := hD
        obtain ⟨x4_6, ex4_6⟩ : ∃ y : Int32, y = v4 + 1 := ⟨_, rfl⟩
        have h := h x4_6 ex4_6
        refine lv_iinc (v := x4_6) (lv' := [(4, .int x4_6), (0, .ref a_mo), (1, .int v1), (2, .int v2), (3, .int v3)]) hx hb dX10_goForth_45 hl (k := 4) rfl (by rw [ex4_6]; rfl) (by decide) rfl (fun ls hl => ?_)
        refine lv_goto (tgt := 3) hx hb dX10_goForth_48 (by decide) ?_
        exact ih x4_6 (jup mwk v4 (r_2 - r_3)) H_5 _ _ h hP hD hS (lv_sub hl [1, 2, 3, 4, 0] rfl)
  refine hL_7 v1 v2 v3 mcoe _ ?_ n_7 0 mwk s.heap _ _ h hP hD hS (lv_sub hl [1, 2, 3, 4, 0] rfl)
  intro v4_7 mwk_7 H locs ls h hP hD hS hl
  refine lv_iconst (v := 0) hx hb dX10_goForth_51 (by decide) ?_
  refine lv_istore (lv' := [(4, .int 0), (0, .ref a_mo), (1, .int v1), (2, .int v2), (3, .int v3)]) hx hb dX10_goForth_52 hl (by decide) rfl (fun ls hl => ?_)
  obtain ⟨n_11, h⟩ := h
  have hL_11 : ∀ (v1 : Int32) (v2 : Int32) (v3 : Int32) (mcoe : (Nat → Int32)) (X : Int32 → (Nat → Int32) → Prop), (∀ (v4 : Int32) (mwk : (Nat → Int32)), ∀ (H : Heap) (locs : List Loc) (ls : Array Slot), X v4 mwk → va_P D vwCl [(a_mo, .inr (10, [.int ma, .int md, .ref a_mo2, .ref a_mo3, .ref a_mo4, .ref a_mo5, .ref a_mo6, .ref a_mo7, .ref a_mo8, .int mq, .int mz, .ref a_mo11, .int msz, .int mat, .int mpl, .int mfa, .ref a_mo16, .int mth])), (a_mo2, .inl (cI, 1024, .inl mpic)), (a_mo3, .inl (cI, 1024, .inl mgiv)), (a_mo4, .inl (cI, 1024, .inl mkep)), (a_mo5, .inl (cI, 64, .inl mmod)), (a_mo6, .inl (cI, 1024, .inl mcoe)), (a_mo7, .inl (cI, 64, .inl mnmo)), (a_mo8, .inl (cI, 1024, .inl mnco)), (a_mo11, .inl (cI, 8000, .inl mby)), (a_mo16, .inl (cI, 16, .inl mwk))] H → va_D A [(a_mo, .inr (10, [.int ma, .int md, .ref a_mo2, .ref a_mo3, .ref a_mo4, .ref a_mo5, .ref a_mo6, .ref a_mo7, .ref a_mo8, .int mq, .int mz, .ref a_mo11, .int msz, .int mat, .int mpl, .int mfa, .ref a_mo16, .int mth])), (a_mo2, .inl (cI, 1024, .inl mpic)), (a_mo3, .inl (cI, 1024, .inl mgiv)), (a_mo4, .inl (cI, 1024, .inl mkep)), (a_mo5, .inl (cI, 64, .inl mmod)), (a_mo6, .inl (cI, 1024, .inl mcoe)), (a_mo7, .inl (cI, 64, .inl mnmo)), (a_mo8, .inl (cI, 1024, .inl mnco)), (a_mo11, .inl (cI, 8000, .inl mby)), (a_mo16, .inl (cI, 16, .inl mwk))] → va_S A s.heap H locs → lv_has ls 8 [(0, .ref a_mo), (1, .int v1), (2, .int v2), (3, .int v3), (4, .int v4)] → W p l e rmX10_goForth s m args below meth c H locs 0 0 Q (F0 m 75 ls [])) → ∀ (n : Nat) (v4 : Int32) (mwk : (Nat → Int32)), ∀ (H : Heap) (locs : List Loc) (ls : Array Slot), wl_X10_goForth_54  K X n v4 mwk → va_P D vwCl [(a_mo, .inr (10, [.int ma, .int md, .ref a_mo2, .ref a_mo3, .ref a_mo4, .ref a_mo5, .ref a_mo6, .ref a_mo7, .ref a_mo8, .int mq, .int mz, .ref a_mo11, .int msz, .int mat, .int mpl, .int mfa, .ref a_mo16, .int mth])), (a_mo2, .inl (cI, 1024, .inl mpic)), (a_mo3, .inl (cI, 1024, .inl mgiv)), (a_mo4, .inl (cI, 1024, .inl mkep)), (a_mo5, .inl (cI, 64, .inl mmod)), (a_mo6, .inl (cI, 1024, .inl mcoe)), (a_mo7, .inl (cI, 64, .inl mnmo)), (a_mo8, .inl (cI, 1024, .inl mnco)), (a_mo11, .inl (cI, 8000, .inl mby)), (a_mo16, .inl (cI, 16, .inl mwk))] H → va_D A [(a_mo, .inr (10, [.int ma, .int md, .ref a_mo2, .ref a_mo3, .ref a_mo4, .ref a_mo5, .ref a_mo6, .ref a_mo7, .ref a_mo8, .int mq, .int mz, .ref a_mo11, .int msz, .int mat, .int mpl, .int mfa, .ref a_mo16, .int mth])), (a_mo2, .inl (cI, 1024, .inl mpic)), (a_mo3, .inl (cI, 1024, .inl mgiv)), (a_mo4, .inl (cI, 1024, .inl mkep)), (a_mo5, .inl (cI, 64, .inl mmod)), (a_mo6, .inl (cI, 1024, .inl mcoe)), (a_mo7, .inl (cI, 64, .inl mnmo)), (a_mo8, .inl (cI, 1024, .inl mnco)), (a_mo11, .inl (cI, 8000, .inl mby)), (a_mo16, .inl (cI, 16, .inl mwk))] → va_S A s.heap H locs → lv_has ls 8 [(0, .ref a_mo), (1, .int v1), (2, .int v2), (3, .int v3), (4, .int v4)] → W p l e rmX10_goForth s m args below meth c H locs 0 0 Q (F0 m 54 ls []) := by
    intro v1 v2 v3 mcoe X hX n
    induction n with
    | zero => intro v4 mwk H locs ls h; rw [wl_X10_goForth_54] at h; exact h.elim
    | succ n ih =>
      intro v4 mwk H locs ls h hP hD hS hl
      rw [wl_X10_goForth_54] at h
      refine lv_iload hx hb dX10_goForth_54 (lv_at hl 4 rfl) ?_
      refine lv_iconst (v := 4) hx hb dX10_goForth_56 (by decide) ?_
      refine lv_icmp_ge (tgt := 75) hx hb dX10_goForth_57 (by decide) (fun c_8 => ?_) (fun c_8 => ?_)
      · have h := h.1 c_8
        exact hX v4 mwk H _ _ h hP hD hS (lv_sub hl [0, 1, 2, 3, 4] rfl)
      · have h := h.2 c_8
        refine lv_aload_n hx hb dX10_goForth_60 rfl (lv_at hl 0 rfl) ?_
        refine lv_iconst (v := 4) hx hb dX10_goForth_61 (by decide) ?_
        refine lv_iload hx hb dX10_goForth_62 (lv_at hl 4 rfl) ?_
        refine lv_imul hx hb dX10_goForth_64 ?_
        refine lv_iconst (v := 1) hx hb dX10_goForth_65 (by decide) ?_
        have hPc := hP.sub (ws' := [(a_mo, .inr (10, [.int ma, .int md, .ref a_mo2, .ref a_mo3, .ref a_mo4, .ref a_mo5, .ref a_mo6, .ref a_mo7, .ref a_mo8, .int mq, .int mz, .ref a_mo11, .int msz, .int mat, .int mpl, .int mfa, .ref a_mo16, .int mth])), (a_mo2, .inl (cI, 1024, .inl mpic)), (a_mo3, .inl (cI, 1024, .inl mgiv)), (a_mo4, .inl (cI, 1024, .inl mkep)), (a_mo5, .inl (cI, 64, .inl mmod)), (a_mo6, .inl (cI, 1024, .inl mcoe)), (a_mo7, .inl (cI, 64, .inl mnmo)), (a_mo8, .inl (cI, 1024, .inl mnco)), (a_mo11, .inl (cI, 8000, .inl mby)), (a_mo16, .inl (cI, 16, .inl mwk))]) [0, 1, 2, 3, 4, 5, 6, 7, 8, 9] rfl
        have hDc := hD.sub (ws' := [(a_mo, .inr (10, [.int ma, .int md, .ref a_mo2, .ref a_mo3, .ref a_mo4, .ref a_mo5, .ref a_mo6, .ref a_mo7, .ref a_mo8, .int mq, .int mz, .ref a_mo11, .int msz, .int mat, .int mpl, .int mfa, .ref a_mo16, .int mth])), (a_mo2, .inl (cI, 1024, .inl mpic)), (a_mo3, .inl (cI, 1024, .inl mgiv)), (a_mo4, .inl (cI, 1024, .inl mkep)), (a_mo5, .inl (cI, 64, .inl mmod)), (a_mo6, .inl (cI, 1024, .inl mcoe)), (a_mo7, .inl (cI, 64, .inl mnmo)), (a_mo8, .inl (cI, 1024, .inl mnco)), (a_mo11, .inl (cI, 8000, .inl mby)), (a_mo16, .inl (cI, 16, .inl mwk))]) [0, 1, 2, 3, 4, 5, 6, 7, 8, 9] (by decide) rfl
        have hFc := va_free (wc := [(a_mo, .inr (10, [.int ma, .int md, .ref a_mo2, .ref a_mo3, .ref a_mo4, .ref a_mo5, .ref a_mo6, .ref a_mo7, .ref a_mo8, .int mq, .int mz, .ref a_mo11, .int msz, .int mat, .int mpl, .int mfa, .ref a_mo16, .int mth])), (a_mo2, .inl (cI, 1024, .inl mpic)), (a_mo3, .inl (cI, 1024, .inl mgiv)), (a_mo4, .inl (cI, 1024, .inl mkep)), (a_mo5, .inl (cI, 64, .inl mmod)), (a_mo6, .inl (cI, 1024, .inl mcoe)), (a_mo7, .inl (cI, 64, .inl mnmo)), (a_mo8, .inl (cI, 1024, .inl mnco)), (a_mo11, .inl (cI, 8000, .inl mby)), (a_mo16, .inl (cI, 16, .inl mwk))]) hD hS hA [0, 1, 2, 3, 4, 5, 6, 7, 8, 9] rfl
        refine jm_callv (wr := []) (va_runV (As := [.int (4 * v4), .int 1]) (rest := []) ⟨hx, hb, hml, hown, hts⟩ (c_X10_forthLine l D cI cB tt a_mo a_mo2 a_mo3 a_mo4 a_mo5 a_mo6 a_mo7 a_mo8 a_mo11 a_mo16 H.size ma md mq mz msz mat mpl mfa mth mpic mgiv mkep mmod mcoe mnmo mnco mby mwk (4 * v4) 1 h) (cwV 2 hts (jm_gV mw_881 mw_883 mw_40 mw_65 mw_884) rfl rfl rfl (by decide +kernel) ⟨Nat.le_of_ble_eq_true rfl, Nat.le_of_ble_eq_true rfl⟩) ⟨jm_blind, va_recv hK hPc (ci := 10) (q0 := 0) rfl rfl, jm_pre hK hE hS hPc hDc hFc _⟩ rfl rfl hl.1 rfl (lv_room (Nat.le_of_ble_eq_true rfl)) dX10_goForth_66 ⟨Nat.zero_le _, Nat.zero_le _⟩) hS hP hD [0, 1, 2, 3, 4, 5, 6, 7, 8, 9] [] rfl rfl (by decide) (by decide) hFc (fun u_9 H_9 locs hw hP hD hS => ?_)
        obtain ⟨mwk_9, rfl⟩ : ∃ z, z = u_9 := ⟨_, rfl⟩
        have h := hw
        have hP : va_P D vwCl [(a_mo, .inr (10, [.int ma, .int md, .ref a_mo2, .ref a_mo3, .ref a_mo4, .ref a_mo5, .ref a_mo6, .ref a_mo7, .ref a_mo8, .int mq, .int mz, .ref a_mo11, .int msz, .int mat, .int mpl, .int mfa, .ref a_mo16, .int mth])), (a_mo2, .inl (cI, 1024, .inl mpic)), (a_mo3, .inl (cI, 1024, .inl mgiv)), (a_mo4, .inl (cI, 1024, .inl mkep)), (a_mo5, .inl (cI, 64, .inl mmod)), (a_mo6, .inl (cI, 1024, .inl mcoe)), (a_mo7, .inl (cI, 64, .inl mnmo)), (a_mo8, .inl (cI, 1024, .inl mnco)), (a_mo11, .inl (cI, 8000, .inl mby)), (a_mo16, .inl (cI, 16, .inl mwk_9))] H_9 := hP.sub [0, 1, 2, 3, 4, 5, 6, 7, 8, 9] rfl
        have hD : va_D A [(a_mo, .inr (10, [.int ma, .int md, .ref a_mo2, .ref a_mo3, .ref a_mo4, .ref a_mo5, .ref a_mo6, .ref a_mo7, .ref a_mo8, .int mq, .int mz, .ref a_mo11, .int msz, .int mat, .int mpl, .int mfa, .ref a_mo16, .int mth])), (a_mo2, .inl (cI, 1024, .inl mpic)), (a_mo3, .inl (cI, 1024, .inl mgiv)), (a_mo4, .inl (cI, 1024, .inl mkep)), (a_mo5, .inl (cI, 64, .inl mmod)), (a_mo6, .inl (cI, 1024, .inl mcoe)), (a_mo7, .inl (cI, 64, .inl mnmo)), (a_mo8, .inl (cI, 1024, .inl mnco)), (a_mo11, .inl (cI, 8000, .inl mby)), (a_mo16, .inl (cI, 16, .inl mwk_9))] := hD.sub [0, 1, 2, 3, 4, 5, 6, 7, 8, 9] (by decide) rfl
        obtain ⟨x4_10, ex4_10⟩ : ∃ y : Int32, y = v4 + 1 := ⟨_, rfl⟩
        have h := h x4_10 ex4_10
        refine lv_iinc (v := x4_10) (lv' := [(4, .int x4_10), (0, .ref a_mo), (1, .int v1), (2, .int v2), (3, .int v3)]) hx hb dX10_goForth_69 hl (k := 4) rfl (by rw [ex4_10]; rfl) (by decide) rfl (fun ls hl => ?_)
        refine lv_goto (tgt := 54) hx hb dX10_goForth_72 (by decide) ?_
        exact ih x4_10 mwk_9 H_9 _ _ h hP hD hS (lv_sub hl [1, 2, 3, 4, 0] rfl)
  refine hL_11 v1 v2 v3 mcoe _ ?_ n_11 0 mwk_7 H _ _ h hP hD hS (lv_sub hl [1, 2, 3, 4, 0] rfl)
  intro v4_11 mwk_11 H locs ls h hP hD hS hl
  refine lv_iconst (v := 0) hx hb dX10_goForth_75 (by decide) ?_
  refine lv_istore (lv' := [(4, .int 0), (0, .ref a_mo), (1, .int v1), (2, .int v2), (3, .int v3)]) hx hb dX10_goForth_76 hl (by decide) rfl (fun ls hl => ?_)
  obtain ⟨n_15, h⟩ := h
  have hL_15 : ∀ (v1 : Int32) (v2 : Int32) (v3 : Int32) (mcoe : (Nat → Int32)) (X : Int32 → (Nat → Int32) → Prop), (∀ (v4 : Int32) (mwk : (Nat → Int32)), ∀ (H : Heap) (locs : List Loc) (ls : Array Slot), X v4 mwk → va_P D vwCl [(a_mo, .inr (10, [.int ma, .int md, .ref a_mo2, .ref a_mo3, .ref a_mo4, .ref a_mo5, .ref a_mo6, .ref a_mo7, .ref a_mo8, .int mq, .int mz, .ref a_mo11, .int msz, .int mat, .int mpl, .int mfa, .ref a_mo16, .int mth])), (a_mo2, .inl (cI, 1024, .inl mpic)), (a_mo3, .inl (cI, 1024, .inl mgiv)), (a_mo4, .inl (cI, 1024, .inl mkep)), (a_mo5, .inl (cI, 64, .inl mmod)), (a_mo6, .inl (cI, 1024, .inl mcoe)), (a_mo7, .inl (cI, 64, .inl mnmo)), (a_mo8, .inl (cI, 1024, .inl mnco)), (a_mo11, .inl (cI, 8000, .inl mby)), (a_mo16, .inl (cI, 16, .inl mwk))] H → va_D A [(a_mo, .inr (10, [.int ma, .int md, .ref a_mo2, .ref a_mo3, .ref a_mo4, .ref a_mo5, .ref a_mo6, .ref a_mo7, .ref a_mo8, .int mq, .int mz, .ref a_mo11, .int msz, .int mat, .int mpl, .int mfa, .ref a_mo16, .int mth])), (a_mo2, .inl (cI, 1024, .inl mpic)), (a_mo3, .inl (cI, 1024, .inl mgiv)), (a_mo4, .inl (cI, 1024, .inl mkep)), (a_mo5, .inl (cI, 64, .inl mmod)), (a_mo6, .inl (cI, 1024, .inl mcoe)), (a_mo7, .inl (cI, 64, .inl mnmo)), (a_mo8, .inl (cI, 1024, .inl mnco)), (a_mo11, .inl (cI, 8000, .inl mby)), (a_mo16, .inl (cI, 16, .inl mwk))] → va_S A s.heap H locs → lv_has ls 8 [(0, .ref a_mo), (1, .int v1), (2, .int v2), (3, .int v3), (4, .int v4)] → W p l e rmX10_goForth s m args below meth c H locs 0 0 Q (F0 m 97 ls [])) → ∀ (n : Nat) (v4 : Int32) (mwk : (Nat → Int32)), ∀ (H : Heap) (locs : List Loc) (ls : Array Slot), wl_X10_goForth_78  K X n v4 mwk → va_P D vwCl [(a_mo, .inr (10, [.int ma, .int md, .ref a_mo2, .ref a_mo3, .ref a_mo4, .ref a_mo5, .ref a_mo6, .ref a_mo7, .ref a_mo8, .int mq, .int mz, .ref a_mo11, .int msz, .int mat, .int mpl, .int mfa, .ref a_mo16, .int mth])), (a_mo2, .inl (cI, 1024, .inl mpic)), (a_mo3, .inl (cI, 1024, .inl mgiv)), (a_mo4, .inl (cI, 1024, .inl mkep)), (a_mo5, .inl (cI, 64, .inl mmod)), (a_mo6, .inl (cI, 1024, .inl mcoe)), (a_mo7, .inl (cI, 64, .inl mnmo)), (a_mo8, .inl (cI, 1024, .inl mnco)), (a_mo11, .inl (cI, 8000, .inl mby)), (a_mo16, .inl (cI, 16, .inl mwk))] H → va_D A [(a_mo, .inr (10, [.int ma, .int md, .ref a_mo2, .ref a_mo3, .ref a_mo4, .ref a_mo5, .ref a_mo6, .ref a_mo7, .ref a_mo8, .int mq, .int mz, .ref a_mo11, .int msz, .int mat, .int mpl, .int mfa, .ref a_mo16, .int mth])), (a_mo2, .inl (cI, 1024, .inl mpic)), (a_mo3, .inl (cI, 1024, .inl mgiv)), (a_mo4, .inl (cI, 1024, .inl mkep)), (a_mo5, .inl (cI, 64, .inl mmod)), (a_mo6, .inl (cI, 1024, .inl mcoe)), (a_mo7, .inl (cI, 64, .inl mnmo)), (a_mo8, .inl (cI, 1024, .inl mnco)), (a_mo11, .inl (cI, 8000, .inl mby)), (a_mo16, .inl (cI, 16, .inl mwk))] → va_S A s.heap H locs → lv_has ls 8 [(0, .ref a_mo), (1, .int v1), (2, .int v2), (3, .int v3), (4, .int v4)] → W p l e rmX10_goForth s m args below meth c H locs 0 0 Q (F0 m 78 ls []) := by
    intro v1 v2 v3 mcoe X hX n
    induction n with
    | zero => intro v4 mwk H locs ls h; rw [wl_X10_goForth_78] at h; exact h.elim
    | succ n ih =>
      intro v4 mwk H locs ls h hP hD hS hl
      rw [wl_X10_goForth_78] at h
      refine lv_iload hx hb dX10_goForth_78 (lv_at hl 4 rfl) ?_
      refine lv_iconst (v := 4) hx hb dX10_goForth_80 (by decide) ?_
      refine lv_icmp_ge (tgt := 97) hx hb dX10_goForth_81 (by decide) (fun c_12 => ?_) (fun c_12 => ?_)
      · have h := h.1 c_12
        exact hX v4 mwk H _ _ h hP hD hS (lv_sub hl [0, 1, 2, 3, 4] rfl)
      · have h := h.2 c_12
        refine lv_aload_n hx hb dX10_goForth_84 rfl (lv_at hl 0 rfl) ?_
        refine lv_iload hx hb dX10_goForth_85 (lv_at hl 4 rfl) ?_
        refine lv_iconst (v := 4) hx hb dX10_goForth_87 (by decide) ?_
        have hPc := hP.sub (ws' := [(a_mo, .inr (10, [.int ma, .int md, .ref a_mo2, .ref a_mo3, .ref a_mo4, .ref a_mo5, .ref a_mo6, .ref a_mo7, .ref a_mo8, .int mq, .int mz, .ref a_mo11, .int msz, .int mat, .int mpl, .int mfa, .ref a_mo16, .int mth])), (a_mo2, .inl (cI, 1024, .inl mpic)), (a_mo3, .inl (cI, 1024, .inl mgiv)), (a_mo4, .inl (cI, 1024, .inl mkep)), (a_mo5, .inl (cI, 64, .inl mmod)), (a_mo6, .inl (cI, 1024, .inl mcoe)), (a_mo7, .inl (cI, 64, .inl mnmo)), (a_mo8, .inl (cI, 1024, .inl mnco)), (a_mo11, .inl (cI, 8000, .inl mby)), (a_mo16, .inl (cI, 16, .inl mwk))]) [0, 1, 2, 3, 4, 5, 6, 7, 8, 9] rfl
        have hDc := hD.sub (ws' := [(a_mo, .inr (10, [.int ma, .int md, .ref a_mo2, .ref a_mo3, .ref a_mo4, .ref a_mo5, .ref a_mo6, .ref a_mo7, .ref a_mo8, .int mq, .int mz, .ref a_mo11, .int msz, .int mat, .int mpl, .int mfa, .ref a_mo16, .int mth])), (a_mo2, .inl (cI, 1024, .inl mpic)), (a_mo3, .inl (cI, 1024, .inl mgiv)), (a_mo4, .inl (cI, 1024, .inl mkep)), (a_mo5, .inl (cI, 64, .inl mmod)), (a_mo6, .inl (cI, 1024, .inl mcoe)), (a_mo7, .inl (cI, 64, .inl mnmo)), (a_mo8, .inl (cI, 1024, .inl mnco)), (a_mo11, .inl (cI, 8000, .inl mby)), (a_mo16, .inl (cI, 16, .inl mwk))]) [0, 1, 2, 3, 4, 5, 6, 7, 8, 9] (by decide) rfl
        have hFc := va_free (wc := [(a_mo, .inr (10, [.int ma, .int md, .ref a_mo2, .ref a_mo3, .ref a_mo4, .ref a_mo5, .ref a_mo6, .ref a_mo7, .ref a_mo8, .int mq, .int mz, .ref a_mo11, .int msz, .int mat, .int mpl, .int mfa, .ref a_mo16, .int mth])), (a_mo2, .inl (cI, 1024, .inl mpic)), (a_mo3, .inl (cI, 1024, .inl mgiv)), (a_mo4, .inl (cI, 1024, .inl mkep)), (a_mo5, .inl (cI, 64, .inl mmod)), (a_mo6, .inl (cI, 1024, .inl mcoe)), (a_mo7, .inl (cI, 64, .inl mnmo)), (a_mo8, .inl (cI, 1024, .inl mnco)), (a_mo11, .inl (cI, 8000, .inl mby)), (a_mo16, .inl (cI, 16, .inl mwk))]) hD hS hA [0, 1, 2, 3, 4, 5, 6, 7, 8, 9] rfl
        refine jm_callv (wr := []) (va_runV (As := [.int v4, .int 4]) (rest := []) ⟨hx, hb, hml, hown, hts⟩ (c_X10_forthLine l D cI cB tt a_mo a_mo2 a_mo3 a_mo4 a_mo5 a_mo6 a_mo7 a_mo8 a_mo11 a_mo16 H.size ma md mq mz msz mat mpl mfa mth mpic mgiv mkep mmod mcoe mnmo mnco mby mwk v4 4 h) (cwV 2 hts (jm_gV mw_881 mw_883 mw_40 mw_65 mw_884) rfl rfl rfl (by decide +kernel) ⟨Nat.le_of_ble_eq_true rfl, Nat.le_of_ble_eq_true rfl⟩) ⟨jm_blind, va_recv hK hPc (ci := 10) (q0 := 0) rfl rfl, jm_pre hK hE hS hPc hDc hFc _⟩ rfl rfl hl.1 rfl (lv_room (Nat.le_of_ble_eq_true rfl)) dX10_goForth_88 ⟨Nat.zero_le _, Nat.zero_le _⟩) hS hP hD [0, 1, 2, 3, 4, 5, 6, 7, 8, 9] [] rfl rfl (by decide) (by decide) hFc (fun u_13 H_13 locs hw hP hD hS => ?_)
        obtain ⟨mwk_13, rfl⟩ : ∃ z, z = u_13 := ⟨_, rfl⟩
        have h := hw
        have hP : va_P D vwCl [(a_mo, .inr (10, [.int ma, .int md, .ref a_mo2, .ref a_mo3, .ref a_mo4, .ref a_mo5, .ref a_mo6, .ref a_mo7, .ref a_mo8, .int mq, .int mz, .ref a_mo11, .int msz, .int mat, .int mpl, .int mfa, .ref a_mo16, .int mth])), (a_mo2, .inl (cI, 1024, .inl mpic)), (a_mo3, .inl (cI, 1024, .inl mgiv)), (a_mo4, .inl (cI, 1024, .inl mkep)), (a_mo5, .inl (cI, 64, .inl mmod)), (a_mo6, .inl (cI, 1024, .inl mcoe)), (a_mo7, .inl (cI, 64, .inl mnmo)), (a_mo8, .inl (cI, 1024, .inl mnco)), (a_mo11, .inl (cI, 8000, .inl mby)), (a_mo16, .inl (cI, 16, .inl mwk_13))] H_13 := hP.sub [0, 1, 2, 3, 4, 5, 6, 7, 8, 9] rfl
        have hD : va_D A [(a_mo, .inr (10, [.int ma, .int md, .ref a_mo2, .ref a_mo3, .ref a_mo4, .ref a_mo5, .ref a_mo6, .ref a_mo7, .ref a_mo8, .int mq, .int mz, .ref a_mo11, .int msz, .int mat, .int mpl, .int mfa, .ref a_mo16, .int mth])), (a_mo2, .inl (cI, 1024, .inl mpic)), (a_mo3, .inl (cI, 1024, .inl mgiv)), (a_mo4, .inl (cI, 1024, .inl mkep)), (a_mo5, .inl (cI, 64, .inl mmod)), (a_mo6, .inl (cI, 1024, .inl mcoe)), (a_mo7, .inl (cI, 64, .inl mnmo)), (a_mo8, .inl (cI, 1024, .inl mnco)), (a_mo11, .inl (cI, 8000, .inl mby)), (a_mo16, .inl (cI, 16, .inl mwk_13))] := hD.sub [0, 1, 2, 3, 4, 5, 6, 7, 8, 9] (by decide) rfl
        obtain ⟨x4_14, ex4_14⟩ : ∃ y : Int32, y = v4 + 1 := ⟨_, rfl⟩
        have h := h x4_14 ex4_14
        refine lv_iinc (v := x4_14) (lv' := [(4, .int x4_14), (0, .ref a_mo), (1, .int v1), (2, .int v2), (3, .int v3)]) hx hb dX10_goForth_91 hl (k := 4) rfl (by rw [ex4_14]; rfl) (by decide) rfl (fun ls hl => ?_)
        refine lv_goto (tgt := 78) hx hb dX10_goForth_94 (by decide) ?_
        exact ih x4_14 mwk_13 H_13 _ _ h hP hD hS (lv_sub hl [1, 2, 3, 4, 0] rfl)
  refine hL_15 v1 v2 v3 mcoe _ ?_ n_15 0 mwk_11 H _ _ h hP hD hS (lv_sub hl [1, 2, 3, 4, 0] rfl)
  intro v4_15 mwk_15 H locs ls h hP hD hS hl
  refine lv_ldc (own := RX10) (v := 32768) hx hb hown (hts (.constant RX10 131 (32768)) (List.mem_cons_of_mem _ mw_885)) dX10_goForth_97 ?_
  refine lv_istore (lv' := [(4, .int 32768), (0, .ref a_mo), (1, .int v1), (2, .int v2), (3, .int v3)]) hx hb dX10_goForth_99 hl (by decide) rfl (fun ls hl => ?_)
  refine lv_iconst (v := 0) hx hb dX10_goForth_101 (by decide) ?_
  refine lv_istore (lv' := [(5, .int 0), (4, .int 32768), (0, .ref a_mo), (1, .int v1), (2, .int v2), (3, .int v3)]) hx hb dX10_goForth_102 hl (by decide) rfl (fun ls hl => ?_)
  obtain ⟨n_19, h⟩ := h
  have hL_19 : ∀ (v1 : Int32) (v2 : Int32) (v3 : Int32) (mcoe : (Nat → Int32)) (mwk : (Nat → Int32)) (X : Int32 → Int32 → Prop), (∀ (v4 : Int32) (v5 : Int32), ∀ (H : Heap) (locs : List Loc) (ls : Array Slot), X v4 v5 → va_P D vwCl [(a_mo, .inr (10, [.int ma, .int md, .ref a_mo2, .ref a_mo3, .ref a_mo4, .ref a_mo5, .ref a_mo6, .ref a_mo7, .ref a_mo8, .int mq, .int mz, .ref a_mo11, .int msz, .int mat, .int mpl, .int mfa, .ref a_mo16, .int mth])), (a_mo2, .inl (cI, 1024, .inl mpic)), (a_mo3, .inl (cI, 1024, .inl mgiv)), (a_mo4, .inl (cI, 1024, .inl mkep)), (a_mo5, .inl (cI, 64, .inl mmod)), (a_mo6, .inl (cI, 1024, .inl mcoe)), (a_mo7, .inl (cI, 64, .inl mnmo)), (a_mo8, .inl (cI, 1024, .inl mnco)), (a_mo11, .inl (cI, 8000, .inl mby)), (a_mo16, .inl (cI, 16, .inl mwk))] H → va_D A [(a_mo, .inr (10, [.int ma, .int md, .ref a_mo2, .ref a_mo3, .ref a_mo4, .ref a_mo5, .ref a_mo6, .ref a_mo7, .ref a_mo8, .int mq, .int mz, .ref a_mo11, .int msz, .int mat, .int mpl, .int mfa, .ref a_mo16, .int mth])), (a_mo2, .inl (cI, 1024, .inl mpic)), (a_mo3, .inl (cI, 1024, .inl mgiv)), (a_mo4, .inl (cI, 1024, .inl mkep)), (a_mo5, .inl (cI, 64, .inl mmod)), (a_mo6, .inl (cI, 1024, .inl mcoe)), (a_mo7, .inl (cI, 64, .inl mnmo)), (a_mo8, .inl (cI, 1024, .inl mnco)), (a_mo11, .inl (cI, 8000, .inl mby)), (a_mo16, .inl (cI, 16, .inl mwk))] → va_S A s.heap H locs → lv_has ls 8 [(0, .ref a_mo), (1, .int v1), (2, .int v2), (3, .int v3), (4, .int v4), (5, .int v5)] → W p l e rmX10_goForth s m args below meth c H locs 0 0 Q (F0 m 125 ls [])) → ∀ (n : Nat) (v4 : Int32) (v5 : Int32), ∀ (H : Heap) (locs : List Loc) (ls : Array Slot), wl_X10_goForth_104 v3 K X n v4 v5 → va_P D vwCl [(a_mo, .inr (10, [.int ma, .int md, .ref a_mo2, .ref a_mo3, .ref a_mo4, .ref a_mo5, .ref a_mo6, .ref a_mo7, .ref a_mo8, .int mq, .int mz, .ref a_mo11, .int msz, .int mat, .int mpl, .int mfa, .ref a_mo16, .int mth])), (a_mo2, .inl (cI, 1024, .inl mpic)), (a_mo3, .inl (cI, 1024, .inl mgiv)), (a_mo4, .inl (cI, 1024, .inl mkep)), (a_mo5, .inl (cI, 64, .inl mmod)), (a_mo6, .inl (cI, 1024, .inl mcoe)), (a_mo7, .inl (cI, 64, .inl mnmo)), (a_mo8, .inl (cI, 1024, .inl mnco)), (a_mo11, .inl (cI, 8000, .inl mby)), (a_mo16, .inl (cI, 16, .inl mwk))] H → va_D A [(a_mo, .inr (10, [.int ma, .int md, .ref a_mo2, .ref a_mo3, .ref a_mo4, .ref a_mo5, .ref a_mo6, .ref a_mo7, .ref a_mo8, .int mq, .int mz, .ref a_mo11, .int msz, .int mat, .int mpl, .int mfa, .ref a_mo16, .int mth])), (a_mo2, .inl (cI, 1024, .inl mpic)), (a_mo3, .inl (cI, 1024, .inl mgiv)), (a_mo4, .inl (cI, 1024, .inl mkep)), (a_mo5, .inl (cI, 64, .inl mmod)), (a_mo6, .inl (cI, 1024, .inl mcoe)), (a_mo7, .inl (cI, 64, .inl mnmo)), (a_mo8, .inl (cI, 1024, .inl mnco)), (a_mo11, .inl (cI, 8000, .inl mby)), (a_mo16, .inl (cI, 16, .inl mwk))] → va_S A s.heap H locs → lv_has ls 8 [(0, .ref a_mo), (1, .int v1), (2, .int v2), (3, .int v3), (4, .int v4), (5, .int v5)] → W p l e rmX10_goForth s m args below meth c H locs 0 0 Q (F0 m 104 ls []) := by
    intro v1 v2 v3 mcoe mwk X hX n
    induction n with
    | zero => intro v4 v5 H locs ls h; rw [wl_X10_goForth_104] at h; exact h.elim
    | succ n ih =>
      intro v4 v5 H locs ls h hP hD hS hl
      rw [wl_X10_goForth_104] at h
      refine lv_iload hx hb dX10_goForth_104 (lv_at hl 5 rfl) ?_
      refine lv_iload_n hx hb dX10_goForth_106 rfl (lv_at hl 3 rfl) ?_
      refine lv_bipush (v := 6) hx hb dX10_goForth_107 (by decide) ?_
      refine lv_idiv hx hb dX10_goForth_109 (by decide) ?_
      refine lv_icmp_ge (tgt := 125) hx hb dX10_goForth_110 (by decide) (fun c_16 => ?_) (fun c_16 => ?_)
      · have h := h.1 c_16
        exact hX v4 v5 H _ _ h hP hD hS (lv_sub hl [0, 1, 2, 3, 4, 5] rfl)
      · have h := h.2 c_16
        refine lv_iconst (v := 2) hx hb dX10_goForth_113 (by decide) ?_
        refine lv_iload hx hb dX10_goForth_114 (lv_at hl 4 rfl) ?_
        refine lv_imul hx hb dX10_goForth_116 ?_
        refine lv_topi (fun x4_17 ex4_17 => ?_)
        have h := h x4_17 ex4_17
        refine lv_istore (lv' := [(4, .int x4_17), (0, .ref a_mo), (1, .int v1), (2, .int v2), (3, .int v3), (5, .int v5)]) hx hb dX10_goForth_117 hl (by decide) rfl (fun ls hl => ?_)
        obtain ⟨x5_18, ex5_18⟩ : ∃ y : Int32, y = v5 + 1 := ⟨_, rfl⟩
        have h := h x5_18 ex5_18
        refine lv_iinc (v := x5_18) (lv' := [(5, .int x5_18), (4, .int x4_17), (0, .ref a_mo), (1, .int v1), (2, .int v2), (3, .int v3)]) hx hb dX10_goForth_119 hl (k := 5) rfl (by rw [ex5_18]; rfl) (by decide) rfl (fun ls hl => ?_)
        refine lv_goto (tgt := 104) hx hb dX10_goForth_122 (by decide) ?_
        exact ih x4_17 x5_18 H _ _ h hP hD hS (lv_sub hl [2, 3, 4, 5, 1, 0] rfl)
  refine hL_19 v1 v2 v3 mcoe mwk_15 _ ?_ n_19 32768 0 H _ _ h hP hD hS (lv_sub hl [2, 3, 4, 5, 1, 0] rfl)
  intro v4_19 v5_19 H locs ls h hP hD hS hl
  refine lv_iconst (v := 0) hx hb dX10_goForth_125 (by decide) ?_
  refine lv_istore (lv' := [(5, .int 0), (0, .ref a_mo), (1, .int v1), (2, .int v2), (3, .int v3), (4, .int v4_19)]) hx hb dX10_goForth_126 hl (by decide) rfl (fun ls hl => ?_)
  obtain ⟨n_33, h⟩ := h
  have hL_33 : ∀ (v1 : Int32) (v2 : Int32) (v3 : Int32) (v4 : Int32) (mwk : (Nat → Int32)) (X : Int32 → (Nat → Int32) → Prop), (∀ (v5 : Int32) (mcoe : (Nat → Int32)), ∀ (H : Heap) (locs : List Loc) (ls : Array Slot), X v5 mcoe → va_P D vwCl [(a_mo, .inr (10, [.int ma, .int md, .ref a_mo2, .ref a_mo3, .ref a_mo4, .ref a_mo5, .ref a_mo6, .ref a_mo7, .ref a_mo8, .int mq, .int mz, .ref a_mo11, .int msz, .int mat, .int mpl, .int mfa, .ref a_mo16, .int mth])), (a_mo2, .inl (cI, 1024, .inl mpic)), (a_mo3, .inl (cI, 1024, .inl mgiv)), (a_mo4, .inl (cI, 1024, .inl mkep)), (a_mo5, .inl (cI, 64, .inl mmod)), (a_mo6, .inl (cI, 1024, .inl mcoe)), (a_mo7, .inl (cI, 64, .inl mnmo)), (a_mo8, .inl (cI, 1024, .inl mnco)), (a_mo11, .inl (cI, 8000, .inl mby)), (a_mo16, .inl (cI, 16, .inl mwk))] H → va_D A [(a_mo, .inr (10, [.int ma, .int md, .ref a_mo2, .ref a_mo3, .ref a_mo4, .ref a_mo5, .ref a_mo6, .ref a_mo7, .ref a_mo8, .int mq, .int mz, .ref a_mo11, .int msz, .int mat, .int mpl, .int mfa, .ref a_mo16, .int mth])), (a_mo2, .inl (cI, 1024, .inl mpic)), (a_mo3, .inl (cI, 1024, .inl mgiv)), (a_mo4, .inl (cI, 1024, .inl mkep)), (a_mo5, .inl (cI, 64, .inl mmod)), (a_mo6, .inl (cI, 1024, .inl mcoe)), (a_mo7, .inl (cI, 64, .inl mnmo)), (a_mo8, .inl (cI, 1024, .inl mnco)), (a_mo11, .inl (cI, 8000, .inl mby)), (a_mo16, .inl (cI, 16, .inl mwk))] → va_S A s.heap H locs → lv_has ls 8 [(0, .ref a_mo), (1, .int v1), (2, .int v2), (3, .int v3), (4, .int v4), (5, .int v5)] → W p l e rmX10_goForth s m args below meth c H locs 0 0 Q (F0 m 216 ls [])) → ∀ (n : Nat) (v5 : Int32) (mcoe : (Nat → Int32)), ∀ (H : Heap) (locs : List Loc) (ls : Array Slot), wl_X10_goForth_128 v1 v3 v4 mwk K X n v5 mcoe → va_P D vwCl [(a_mo, .inr (10, [.int ma, .int md, .ref a_mo2, .ref a_mo3, .ref a_mo4, .ref a_mo5, .ref a_mo6, .ref a_mo7, .ref a_mo8, .int mq, .int mz, .ref a_mo11, .int msz, .int mat, .int mpl, .int mfa, .ref a_mo16, .int mth])), (a_mo2, .inl (cI, 1024, .inl mpic)), (a_mo3, .inl (cI, 1024, .inl mgiv)), (a_mo4, .inl (cI, 1024, .inl mkep)), (a_mo5, .inl (cI, 64, .inl mmod)), (a_mo6, .inl (cI, 1024, .inl mcoe)), (a_mo7, .inl (cI, 64, .inl mnmo)), (a_mo8, .inl (cI, 1024, .inl mnco)), (a_mo11, .inl (cI, 8000, .inl mby)), (a_mo16, .inl (cI, 16, .inl mwk))] H → va_D A [(a_mo, .inr (10, [.int ma, .int md, .ref a_mo2, .ref a_mo3, .ref a_mo4, .ref a_mo5, .ref a_mo6, .ref a_mo7, .ref a_mo8, .int mq, .int mz, .ref a_mo11, .int msz, .int mat, .int mpl, .int mfa, .ref a_mo16, .int mth])), (a_mo2, .inl (cI, 1024, .inl mpic)), (a_mo3, .inl (cI, 1024, .inl mgiv)), (a_mo4, .inl (cI, 1024, .inl mkep)), (a_mo5, .inl (cI, 64, .inl mmod)), (a_mo6, .inl (cI, 1024, .inl mcoe)), (a_mo7, .inl (cI, 64, .inl mnmo)), (a_mo8, .inl (cI, 1024, .inl mnco)), (a_mo11, .inl (cI, 8000, .inl mby)), (a_mo16, .inl (cI, 16, .inl mwk))] → va_S A s.heap H locs → lv_has ls 8 [(0, .ref a_mo), (1, .int v1), (2, .int v2), (3, .int v3), (4, .int v4), (5, .int v5)] → W p l e rmX10_goForth s m args below meth c H locs 0 0 Q (F0 m 128 ls []) := by
    intro v1 v2 v3 v4 mwk X hX n
    induction n with
    | zero => intro v5 mcoe H locs ls h; rw [wl_X10_goForth_128] at h; exact h.elim
    | succ n ih =>
      intro v5 mcoe H locs ls h hP hD hS hl
      rw [wl_X10_goForth_128] at h
      refine lv_iload hx hb dX10_goForth_128 (lv_at hl 5 rfl) ?_
      refine lv_bipush (v := 16) hx hb dX10_goForth_130 (by decide) ?_
      refine lv_icmp_ge (tgt := 216) hx hb dX10_goForth_132 (by decide) (fun c_20 => ?_) (fun c_20 => ?_)
      · have h := h.1 c_20
        exact hX v5 mcoe H _ _ h hP hD hS (lv_sub hl [0, 1, 2, 3, 4, 5] rfl)
      · have h := h.2 c_20
        refine lv_iload hx hb dX10_goForth_135 (lv_at hl 5 rfl) ?_
        have hPc := hP.sub (ws' := []) [] rfl
        have hDc := hD.sub (ws' := []) [] (by decide) rfl
        have hFc := va_free (wc := []) hD hS hA [] rfl
        refine jm_calli (wr := [(a_mo, .inr (10, [.int ma, .int md, .ref a_mo2, .ref a_mo3, .ref a_mo4, .ref a_mo5, .ref a_mo6, .ref a_mo7, .ref a_mo8, .int mq, .int mz, .ref a_mo11, .int msz, .int mat, .int mpl, .int mfa, .ref a_mo16, .int mth])), (a_mo2, .inl (cI, 1024, .inl mpic)), (a_mo3, .inl (cI, 1024, .inl mgiv)), (a_mo4, .inl (cI, 1024, .inl mkep)), (a_mo5, .inl (cI, 64, .inl mmod)), (a_mo6, .inl (cI, 1024, .inl mcoe)), (a_mo7, .inl (cI, 64, .inl mnmo)), (a_mo8, .inl (cI, 1024, .inl mnco)), (a_mo11, .inl (cI, 8000, .inl mby)), (a_mo16, .inl (cI, 16, .inl mwk))]) (va_runS (As := [.int v5]) (rest := []) ⟨hx, hb, hml, hown, hts⟩ (c_X10_placeOf l D cI cB tt H.size v5 h) (va_cwS 1 hts (jm_gS mw_886 mw_887 mw_65 mw_888) rfl rfl rfl (by decide +kernel) ⟨Nat.le_of_ble_eq_true rfl, Nat.le_of_ble_eq_true rfl⟩) ⟨jm_blind, jm_pre hK hE hS hPc hDc hFc _⟩ rfl rfl hl.1 rfl (lv_room (Nat.le_of_ble_eq_true rfl)) dX10_goForth_137 ⟨Nat.zero_le _, Nat.zero_le _⟩) hS hP hD [] [0, 1, 2, 3, 4, 5, 6, 7, 8, 9] rfl rfl (by decide) (by decide) hFc (fun r_21 u_21 H_21 locs hw hP hD hS => ?_)
        have h := hw
        have hP : va_P D vwCl [(a_mo, .inr (10, [.int ma, .int md, .ref a_mo2, .ref a_mo3, .ref a_mo4, .ref a_mo5, .ref a_mo6, .ref a_mo7, .ref a_mo8, .int mq, .int mz, .ref a_mo11, .int msz, .int mat, .int mpl, .int mfa, .ref a_mo16, .int mth])), (a_mo2, .inl (cI, 1024, .inl mpic)), (a_mo3, .inl (cI, 1024, .inl mgiv)), (a_mo4, .inl (cI, 1024, .inl mkep)), (a_mo5, .inl (cI, 64, .inl mmod)), (a_mo6, .inl (cI, 1024, .inl mcoe)), (a_mo7, .inl (cI, 64, .inl mnmo)), (a_mo8, .inl (cI, 1024, .inl mnco)), (a_mo11, .inl (cI, 8000, .inl mby)), (a_mo16, .inl (cI, 16, .inl mwk))] H_21 := hP.sub [0, 1, 2, 3, 4, 5, 6, 7, 8, 9] rfl
        have hD : va_D A [(a_mo, .inr (10, [.int ma, .int md, .ref a_mo2, .ref a_mo3, .ref a_mo4, .ref a_mo5, .ref a_mo6, .ref a_mo7, .ref a_mo8, .int mq, .int mz, .ref a_mo11, .int msz, .int mat, .int mpl, .int mfa, .ref a_mo16, .int mth])), (a_mo2, .inl (cI, 1024, .inl mpic)), (a_mo3, .inl (cI, 1024, .inl mgiv)), (a_mo4, .inl (cI, 1024, .inl mkep)), (a_mo5, .inl (cI, 64, .inl mmod)), (a_mo6, .inl (cI, 1024, .inl mcoe)), (a_mo7, .inl (cI, 64, .inl mnmo)), (a_mo8, .inl (cI, 1024, .inl mnco)), (a_mo11, .inl (cI, 8000, .inl mby)), (a_mo16, .inl (cI, 16, .inl mwk))] := hD.sub [0, 1, 2, 3, 4, 5, 6, 7, 8, 9] (by decide) rfl
        refine lv_istore (lv' := [(6, .int r_21), (0, .ref a_mo), (1, .int v1), (2, .int v2), (3, .int v3), (4, .int v4), (5, .int v5)]) hx hb dX10_goForth_140 hl (by decide) rfl (fun ls hl => ?_)
        refine lv_aload_n hx hb dX10_goForth_142 rfl (lv_at hl 1 rfl) ?_
        refine va_get (D := D) (ci := 10) (v := .ref a_mo16) (C := RX10) (T := TX10) (N := 18) hx hb hts iX10 hown hK hP 0 rfl rfl 16 (by decide) lk44 (fun _ h9 => h9) rfl dX10_goForth_143 ?_
        refine lv_iload hx hb dX10_goForth_146 (lv_at hl 0 rfl) ?_
        obtain ⟨hi_22, h⟩ := h
        refine va_iald hx hb hK hP 9 0 rfl rfl hi_22 dX10_goForth_148 ?_
        have hPc := hP.sub (ws' := []) [] rfl
        have hDc := hD.sub (ws' := []) [] (by decide) rfl
        have hFc := va_free (wc := []) hD hS hA [] rfl
        refine jm_calli (wr := [(a_mo, .inr (10, [.int ma, .int md, .ref a_mo2, .ref a_mo3, .ref a_mo4, .ref a_mo5, .ref a_mo6, .ref a_mo7, .ref a_mo8, .int mq, .int mz, .ref a_mo11, .int msz, .int mat, .int mpl, .int mfa, .ref a_mo16, .int mth])), (a_mo2, .inl (cI, 1024, .inl mpic)), (a_mo3, .inl (cI, 1024, .inl mgiv)), (a_mo4, .inl (cI, 1024, .inl mkep)), (a_mo5, .inl (cI, 64, .inl mmod)), (a_mo6, .inl (cI, 1024, .inl mcoe)), (a_mo7, .inl (cI, 64, .inl mnmo)), (a_mo8, .inl (cI, 1024, .inl mnco)), (a_mo11, .inl (cI, 8000, .inl mby)), (a_mo16, .inl (cI, 16, .inl mwk))]) (va_runS (As := [.int (jat mwk r_21)]) (rest := []) ⟨hx, hb, hml, hown, hts⟩ (c_X10_size l D cI cB tt H_21.size (jat mwk r_21) h) (va_cwS 1 hts (jm_gS mw_874 mw_875 mw_65 mw_876) rfl rfl rfl (by decide +kernel) ⟨Nat.le_of_ble_eq_true rfl, Nat.le_of_ble_eq_true rfl⟩) ⟨jm_blind, jm_pre hK hE hS hPc hDc hFc _⟩ rfl rfl hl.1 rfl (lv_room (Nat.le_of_ble_eq_true rfl)) dX10_goForth_149 ⟨Nat.zero_le _, Nat.zero_le _⟩) hS hP hD [] [0, 1, 2, 3, 4, 5, 6, 7, 8, 9] rfl rfl (by decide) (by decide) hFc (fun r_23 u_23 H_23 locs hw hP hD hS => ?_)
        have h := hw
        have hP : va_P D vwCl [(a_mo, .inr (10, [.int ma, .int md, .ref a_mo2, .ref a_mo3, .ref a_mo4, .ref a_mo5, .ref a_mo6, .ref a_mo7, .ref a_mo8, .int mq, .int mz, .ref a_mo11, .int msz, .int mat, .int mpl, .int mfa, .ref a_mo16, .int mth])), (a_mo2, .inl (cI, 1024, .inl mpic)), (a_mo3, .inl (cI, 1024, .inl mgiv)), (a_mo4, .inl (cI, 1024, .inl mkep)), (a_mo5, .inl (cI, 64, .inl mmod)), (a_mo6, .inl (cI, 1024, .inl mcoe)), (a_mo7, .inl (cI, 64, .inl mnmo)), (a_mo8, .inl (cI, 1024, .inl mnco)), (a_mo11, .inl (cI, 8000, .inl mby)), (a_mo16, .inl (cI, 16, .inl mwk))] H_23 := hP.sub [0, 1, 2, 3, 4, 5, 6, 7, 8, 9] rfl
        have hD : va_D A [(a_mo, .inr (10, [.int ma, .int md, .ref a_mo2, .ref a_mo3, .ref a_mo4, .ref a_mo5, .ref a_mo6, .ref a_mo7, .ref a_mo8, .int mq, .int mz, .ref a_mo11, .int msz, .int mat, .int mpl, .int mfa, .ref a_mo16, .int mth])), (a_mo2, .inl (cI, 1024, .inl mpic)), (a_mo3, .inl (cI, 1024, .inl mgiv)), (a_mo4, .inl (cI, 1024, .inl mkep)), (a_mo5, .inl (cI, 64, .inl mmod)), (a_mo6, .inl (cI, 1024, .inl mcoe)), (a_mo7, .inl (cI, 64, .inl mnmo)), (a_mo8, .inl (cI, 1024, .inl mnco)), (a_mo11, .inl (cI, 8000, .inl mby)), (a_mo16, .inl (cI, 16, .inl mwk))] := hD.sub [0, 1, 2, 3, 4, 5, 6, 7, 8, 9] (by decide) rfl
        refine lv_i2l (v := (r_23 : Int32).toInt64) hx hb dX10_goForth_152 rfl ?_
        refine lv_iload_n hx hb dX10_goForth_153 rfl (lv_at hl 4 rfl) ?_
        refine lv_iload hx hb dX10_goForth_154 (lv_at hl 0 rfl) ?_
        refine lv_iconst (v := 4) hx hb dX10_goForth_156 (by decide) ?_
        refine lv_irem hx hb dX10_goForth_157 (by decide) ?_
        refine lv_iload hx hb dX10_goForth_158 (lv_at hl 0 rfl) ?_
        refine lv_iconst (v := 4) hx hb dX10_goForth_160 (by decide) ?_
        refine lv_idiv hx hb dX10_goForth_161 (by decide) ?_
        have hPc := hP.sub (ws' := []) [] rfl
        have hDc := hD.sub (ws' := []) [] (by decide) rfl
        have hFc := va_free (wc := []) hD hS hA [] rfl
        refine jm_calli (wr := [(a_mo, .inr (10, [.int ma, .int md, .ref a_mo2, .ref a_mo3, .ref a_mo4, .ref a_mo5, .ref a_mo6, .ref a_mo7, .ref a_mo8, .int mq, .int mz, .ref a_mo11, .int msz, .int mat, .int mpl, .int mfa, .ref a_mo16, .int mth])), (a_mo2, .inl (cI, 1024, .inl mpic)), (a_mo3, .inl (cI, 1024, .inl mgiv)), (a_mo4, .inl (cI, 1024, .inl mkep)), (a_mo5, .inl (cI, 64, .inl mmod)), (a_mo6, .inl (cI, 1024, .inl mcoe)), (a_mo7, .inl (cI, 64, .inl mnmo)), (a_mo8, .inl (cI, 1024, .inl mnco)), (a_mo11, .inl (cI, 8000, .inl mby)), (a_mo16, .inl (cI, 16, .inl mwk))]) (va_runS (As := [.int v3, .int (jrem r_21 4), .int (r_21 / 4)]) (rest := [.long ((r_23 : Int32).toInt64)]) ⟨hx, hb, hml, hown, hts⟩ (c_X10_forthBy l D cI cB tt H_23.size v3 (jrem r_21 4) (r_21 / 4) h) (va_cwS 3 hts (jm_gS mw_889 mw_890 mw_65 mw_891) rfl rfl rfl (by decide +kernel) ⟨Nat.le_of_ble_eq_true rfl, Nat.le_of_ble_eq_true rfl⟩) ⟨jm_blind, jm_pre hK hE hS hPc hDc hFc _⟩ rfl rfl hl.1 rfl (lv_room (Nat.le_of_ble_eq_true rfl)) dX10_goForth_162 ⟨Nat.zero_le _, Nat.zero_le _⟩) hS hP hD [] [0, 1, 2, 3, 4, 5, 6, 7, 8, 9] rfl rfl (by decide) (by decide) hFc (fun r_24 u_24 H_24 locs hw hP hD hS => ?_)
        have h := hw
        have hP : va_P D vwCl [(a_mo, .inr (10, [.int ma, .int md, .ref a_mo2, .ref a_mo3, .ref a_mo4, .ref a_mo5, .ref a_mo6, .ref a_mo7, .ref a_mo8, .int mq, .int mz, .ref a_mo11, .int msz, .int mat, .int mpl, .int mfa, .ref a_mo16, .int mth])), (a_mo2, .inl (cI, 1024, .inl mpic)), (a_mo3, .inl (cI, 1024, .inl mgiv)), (a_mo4, .inl (cI, 1024, .inl mkep)), (a_mo5, .inl (cI, 64, .inl mmod)), (a_mo6, .inl (cI, 1024, .inl mcoe)), (a_mo7, .inl (cI, 64, .inl mnmo)), (a_mo8, .inl (cI, 1024, .inl mnco)), (a_mo11, .inl (cI, 8000, .inl mby)), (a_mo16, .inl (cI, 16, .inl mwk))] H_24 := hP.sub [0, 1, 2, 3, 4, 5, 6, 7, 8, 9] rfl
        have hD : va_D A [(a_mo, .inr (10, [.int ma, .int md, .ref a_mo2, .ref a_mo3, .ref a_mo4, .ref a_mo5, .ref a_mo6, .ref a_mo7, .ref a_mo8, .int mq, .int mz, .ref a_mo11, .int msz, .int mat, .int mpl, .int mfa, .ref a_mo16, .int mth])), (a_mo2, .inl (cI, 1024, .inl mpic)), (a_mo3, .inl (cI, 1024, .inl mgiv)), (a_mo4, .inl (cI, 1024, .inl mkep)), (a_mo5, .inl (cI, 64, .inl mmod)), (a_mo6, .inl (cI, 1024, .inl mcoe)), (a_mo7, .inl (cI, 64, .inl mnmo)), (a_mo8, .inl (cI, 1024, .inl mnco)), (a_mo11, .inl (cI, 8000, .inl mby)), (a_mo16, .inl (cI, 16, .inl mwk))] := hD.sub [0, 1, 2, 3, 4, 5, 6, 7, 8, 9] (by decide) rfl
        refine lv_i2l (v := (r_24 : Int32).toInt64) hx hb dX10_goForth_165 rfl ?_
        refine lv_lmul hx hb dX10_goForth_166 ?_
        refine lv_iload hx hb dX10_goForth_167 (lv_at hl 5 rfl) ?_
        refine lv_iconst (v := 3) hx hb dX10_goForth_169 (by decide) ?_
        refine lv_idiv hx hb dX10_goForth_170 (by decide) ?_
        refine lv_i2l (v := (v4 / 3 : Int32).toInt64) hx hb dX10_goForth_171 rfl ?_
        refine lv_ladd hx hb dX10_goForth_172 ?_
        refine lv_iload hx hb dX10_goForth_173 (lv_at hl 5 rfl) ?_
        refine lv_i2l (v := (v4 : Int32).toInt64) hx hb dX10_goForth_175 rfl ?_
        obtain ⟨hz_25, h⟩ := h
        refine lv_ldiv hx hb dX10_goForth_176 hz_25 ?_
        refine lv_l2i (v := (((((r_23 : Int32).toInt64) * ((r_24 : Int32).toInt64)) + ((v4 / 3 : Int32).toInt64)) / ((v4 : Int32).toInt64)).toInt32) hx hb dX10_goForth_177 rfl ?_
        refine lv_topi (fun x7_26 ex7_26 => ?_)
        have h := h x7_26 ex7_26
        refine lv_istore (lv' := [(7, .int x7_26), (6, .int r_21), (0, .ref a_mo), (1, .int v1), (2, .int v2), (3, .int v3), (4, .int v4), (5, .int v5)]) hx hb dX10_goForth_178 hl (by decide) rfl (fun ls hl => ?_)
        refine lv_aload_n hx hb dX10_goForth_180 rfl (lv_at hl 2 rfl) ?_
        refine va_get (D := D) (ci := 10) (v := .ref a_mo6) (C := RX10) (T := TX10) (N := 18) hx hb hts iX10 hown hK hP 0 rfl rfl 6 (by decide) lk29 (fun _ h9 => h9) rfl dX10_goForth_181 ?_
        refine lv_bipush (v := 16) hx hb dX10_goForth_184 (by decide) ?_
        refine lv_iload_n hx hb dX10_goForth_186 rfl (lv_at hl 3 rfl) ?_
        refine lv_imul hx hb dX10_goForth_187 ?_
        refine lv_iload hx hb dX10_goForth_188 (lv_at hl 7 rfl) ?_
        refine lv_iadd hx hb dX10_goForth_190 ?_
        refine lv_aload_n hx hb dX10_goForth_191 rfl (lv_at hl 2 rfl) ?_
        refine va_get (D := D) (ci := 10) (v := .ref a_mo16) (C := RX10) (T := TX10) (N := 18) hx hb hts iX10 hown hK hP 0 rfl rfl 16 (by decide) lk44 (fun _ h9 => h9) rfl dX10_goForth_192 ?_
        refine lv_iload hx hb dX10_goForth_195 (lv_at hl 1 rfl) ?_
        obtain ⟨hi_27, h⟩ := h
        refine va_iald hx hb hK hP 9 0 rfl rfl hi_27 dX10_goForth_197 ?_
        obtain ⟨J_28, hj_28, h⟩ := jn1_out h
        have hJ_28 : ∀ (t0_28 : Int32), ∀ (H : Heap) (locs : List Loc) (ls : Array Slot), J_28 t0_28 → va_P D vwCl [(a_mo, .inr (10, [.int ma, .int md, .ref a_mo2, .ref a_mo3, .ref a_mo4, .ref a_mo5, .ref a_mo6, .ref a_mo7, .ref a_mo8, .int mq, .int mz, .ref a_mo11, .int msz, .int mat, .int mpl, .int mfa, .ref a_mo16, .int mth])), (a_mo2, .inl (cI, 1024, .inl mpic)), (a_mo3, .inl (cI, 1024, .inl mgiv)), (a_mo4, .inl (cI, 1024, .inl mkep)), (a_mo5, .inl (cI, 64, .inl mmod)), (a_mo6, .inl (cI, 1024, .inl mcoe)), (a_mo7, .inl (cI, 64, .inl mnmo)), (a_mo8, .inl (cI, 1024, .inl mnco)), (a_mo11, .inl (cI, 8000, .inl mby)), (a_mo16, .inl (cI, 16, .inl mwk))] H → va_D A [(a_mo, .inr (10, [.int ma, .int md, .ref a_mo2, .ref a_mo3, .ref a_mo4, .ref a_mo5, .ref a_mo6, .ref a_mo7, .ref a_mo8, .int mq, .int mz, .ref a_mo11, .int msz, .int mat, .int mpl, .int mfa, .ref a_mo16, .int mth])), (a_mo2, .inl (cI, 1024, .inl mpic)), (a_mo3, .inl (cI, 1024, .inl mgiv)), (a_mo4, .inl (cI, 1024, .inl mkep)), (a_mo5, .inl (cI, 64, .inl mmod)), (a_mo6, .inl (cI, 1024, .inl mcoe)), (a_mo7, .inl (cI, 64, .inl mnmo)), (a_mo8, .inl (cI, 1024, .inl mnco)), (a_mo11, .inl (cI, 8000, .inl mby)), (a_mo16, .inl (cI, 16, .inl mwk))] → va_S A s.heap H locs → lv_has ls 8 [(0, .ref a_mo), (1, .int v1), (2, .int v2), (3, .int v3), (4, .int v4), (5, .int v5), (6, .int r_21), (7, .int x7_26)] → W p l e rmX10_goForth s m args below meth c H locs 0 0 Q (F0 m 209 ls [.int t0_28, .int ((16 * v1) + v5), .ref a_mo6]) := by
          intro t0_28 H locs ls h hP hD hS hl
          have h := hj_28 t0_28 h
          obtain ⟨hi_29, h⟩ := h
          refine va_iast hx hb hK hP hD hS 5 0 rfl rfl hi_29 dX10_goForth_209 (fun H_30 locs hP hD hS => ?_)
          have hP : va_P D vwCl [(a_mo, .inr (10, [.int ma, .int md, .ref a_mo2, .ref a_mo3, .ref a_mo4, .ref a_mo5, .ref a_mo6, .ref a_mo7, .ref a_mo8, .int mq, .int mz, .ref a_mo11, .int msz, .int mat, .int mpl, .int mfa, .ref a_mo16, .int mth])), (a_mo2, .inl (cI, 1024, .inl mpic)), (a_mo3, .inl (cI, 1024, .inl mgiv)), (a_mo4, .inl (cI, 1024, .inl mkep)), (a_mo5, .inl (cI, 64, .inl mmod)), (a_mo6, .inl (cI, 1024, .inl (jup mcoe ((16 * v1) + v5) t0_28))), (a_mo7, .inl (cI, 64, .inl mnmo)), (a_mo8, .inl (cI, 1024, .inl mnco)), (a_mo11, .inl (cI, 8000, .inl mby)), (a_mo16, .inl (cI, 16, .inl mwk))] H_30 := hP
          have hD : va_D A [(a_mo, .inr (10, [.int ma, .int md, .ref a_mo2, .ref a_mo3, .ref a_mo4, .ref a_mo5, .ref a_mo6, .ref a_mo7, .ref a_mo8, .int mq, .int mz, .ref a_mo11, .int msz, .int mat, .int mpl, .int mfa, .ref a_mo16, .int mth])), (a_mo2, .inl (cI, 1024, .inl mpic)), (a_mo3, .inl (cI, 1024, .inl mgiv)), (a_mo4, .inl (cI, 1024, .inl mkep)), (a_mo5, .inl (cI, 64, .inl mmod)), (a_mo6, .inl (cI, 1024, .inl (jup mcoe ((16 * v1) + v5) t0_28))), (a_mo7, .inl (cI, 64, .inl mnmo)), (a_mo8, .inl (cI, 1024, .inl mnco)), (a_mo11, .inl (cI, 8000, .inl mby)), (a_mo16, .inl (cI, 16, .inl mwk))] := hD
          obtain ⟨x5_31, ex5_31⟩ : ∃ y : Int32, y = v5 + 1 := ⟨_, rfl⟩
          have h := h x5_31 ex5_31
          refine lv_iinc (v := x5_31) (lv' := [(5, .int x5_31), (0, .ref a_mo), (1, .int v1), (2, .int v2), (3, .int v3), (4, .int v4), (6, .int r_21), (7, .int x7_26)]) hx hb dX10_goForth_210 hl (k := 5) rfl (by rw [ex5_31]; rfl) (by decide) rfl (fun ls hl => ?_)
          refine lv_goto (tgt := 128) hx hb dX10_goForth_213 (by decide) ?_
          exact ih x5_31 (jup mcoe ((16 * v1) + v5) t0_28) H_30 _ _ h hP hD hS (lv_sub hl [1, 2, 3, 4, 5, 0] rfl)
        refine lv_if_ge (tgt := 207) hx hb dX10_goForth_198 (by decide) (fun c_32 => ?_) (fun c_32 => ?_)
        · have h := h.1 c_32
          refine lv_iload hx hb dX10_goForth_207 (lv_at hl 0 rfl) ?_
          exact hJ_28 x7_26 H_24 _ _ h hP hD hS (lv_sub hl [2, 3, 4, 5, 6, 7, 1, 0] rfl)
        · have h := h.2 c_32
          refine lv_iload hx hb dX10_goForth_201 (lv_at hl 0 rfl) ?_
          refine lv_ineg hx hb dX10_goForth_203 ?_
          refine lv_goto (tgt := 209) hx hb dX10_goForth_204 (by decide) ?_
          exact hJ_28 (-x7_26) H_24 _ _ h hP hD hS (lv_sub hl [2, 3, 4, 5, 6, 7, 1, 0] rfl)
  refine hL_33 v1 v2 v3 v4_19 mwk_15 _ ?_ n_33 0 mcoe H _ _ h hP hD hS (lv_sub hl [1, 2, 3, 4, 5, 0] rfl)
  intro v5_33 mcoe_33 H locs ls h hP hD hS hl
  exact hret (mcoe_33, mwk_15) _ _ _ _ dX10_goForth_216 h hP hD hS
def wp_X10_smooth (mq : Int32) (mpic : (Nat → Int32)) (v1 v2 : Int32) (K : (Nat → Int32) → Prop) : Prop := vp_in (v1 - (2 * v2)) 1024 ∧ ∀ x3_2 : Int32, x3_2 = jat mpic (v1 - (2 * v2)) → vp_in (v1 - v2) 1024 ∧ ∀ x4_4 : Int32, x4_4 = jat mpic (v1 - v2) → vp_in v1 1024 ∧ ∀ x5_6 : Int32, x5_6 = jat mpic v1 → vp_in (v1 + v2) 1024 ∧ ∀ x6_8 : Int32, x6_8 = jat mpic (v1 + v2) → ∀ x7_9 : Int32, x7_9 = (mq / 4) + 1 → wp_X10_size (x4_4 - x5_6) (fun (r_10 : Int32) => ((((mq * mq) / 24) ≤ r_10 → K mpic) ∧ (¬ ((mq * mq) / 24) ≤ r_10 → wp_X10_size (x4_4 - x3_2) (fun (r_12 : Int32) => ((x7_9 ≤ r_12 → K mpic) ∧ (¬ x7_9 ≤ r_12 → wp_X10_size (x6_8 - x5_6) (fun (r_14 : Int32) => ((r_14 < x7_9 → ∀ x8_16 : Int32, x8_16 = (mq / 8) + 1 → wp_X10_down ((((4 * (x5_6 - x4_4)) + x3_2) - x6_8) + 4) 8 (fun (r_17 : Int32) => jn1 (fun (t0_18 : Int32) => wp_X10_clip (x4_4 + t0_18) (fun (r_19 : Int32) => vp_in (v1 - v2) 1024 ∧ wp_X10_clip (x5_6 - t0_18) (fun (r_22 : Int32) => vp_in v1 1024 ∧ K (jup (jup mpic (v1 - v2) r_19) v1 r_22)))) (fun J_18 => (((-x8_16) ≤ r_17 → ((r_17 ≤ x8_16 → J_18 r_17) ∧ (¬ r_17 ≤ x8_16 → J_18 x8_16))) ∧ (¬ (-x8_16) ≤ r_17 → J_18 (-x8_16)))))) ∧ (¬ r_14 < x7_9 → K mpic)))))))))
abbrev jw_X10_smooth : List Cond := .code yX10_smooth cX10_smooth 10 none :: jmAll
abbrev rmX10_smooth : Room := { frames := 1, cells := 0, slots := 0, locals := 21 }
set_option maxHeartbeats 4000000 in
set_option maxRecDepth 100000 in
theorem c_X10_smooth (l : Launch) (D : va_G) (cI cB : ClassId) (tt : Nat × Nat × Nat) (a_mo a_mo2 a_mo3 a_mo4 a_mo5 a_mo6 a_mo7 a_mo8 a_mo11 a_mo16 : Nat) (sz : Nat) (ma : Int32) (md : Int32) (mq : Int32) (mz : Int32) (msz : Int32) (mat : Int32) (mpl : Int32) (mfa : Int32) (mth : Int32) (mpic : (Nat → Int32)) (mgiv : (Nat → Int32)) (mkep : (Nat → Int32)) (mmod : (Nat → Int32)) (mcoe : (Nat → Int32)) (mnmo : (Nat → Int32)) (mnco : (Nat → Int32)) (mby : (Nat → Int32)) (mwk : (Nat → Int32)) (v1 v2 : Int32) {K : (Nat → Int32) → Prop} (h : wp_X10_smooth mq mpic v1 v2 K) : Met l yX10_smooth jw_X10_smooth rmX10_smooth (va_Pc [.ref a_mo, .int v1, .int v2] (jm_Pre D cI cB tt (wd_mo_mo2_mo3_mo4_mo5_mo6_mo7_mo8_mo11_mo16 cI cB a_mo a_mo2 a_mo3 a_mo4 a_mo5 a_mo6 a_mo7 a_mo8 a_mo11 a_mo16 ma md mq mz msz mat mpl mfa mth mpic mgiv mkep mmod mcoe mnmo mnco mby mwk) sz)) (va_Qv (fun (u : (Nat → Int32)) => K u) (jm_Post D cI cB (wd_mo_mo2_mo3_mo4_mo5_mo6_mo7_mo8_mo11_mo16 cI cB a_mo a_mo2 a_mo3 a_mo4 a_mo5 a_mo6 a_mo7 a_mo8 a_mo11 a_mo16 ma md mq mz msz mat mpl mfa mth mpic mgiv mkep mmod mcoe mnmo mnco mby mwk) sz (fun (u : (Nat → Int32)) => wd_mo_mo2_mo3_mo4_mo5_mo6_mo7_mo8_mo11_mo16 cI cB a_mo a_mo2 a_mo3 a_mo4 a_mo5 a_mo6 a_mo7 a_mo8 a_mo11 a_mo16 ma md mq mz msz mat mpl mfa mth u mgiv mkep mmod mcoe mnmo mnco mby mwk)) (va_A (wd_mo_mo2_mo3_mo4_mo5_mo6_mo7_mo8_mo11_mo16 cI cB a_mo a_mo2 a_mo3 a_mo4 a_mo5 a_mo6 a_mo7 a_mo8 a_mo11 a_mo16 ma md mq mz msz mat mpl mfa mth mpic mgiv mkep mmod mcoe mnmo mnco mby mwk) sz)) 0 0 (va_A (wd_mo_mo2_mo3_mo4_mo5_mo6_mo7_mo8_mo11_mo16 cI cB a_mo a_mo2 a_mo3 a_mo4 a_mo5 a_mo6 a_mo7 a_mo8 a_mo11 a_mo16 ma md mq mz msz mat mpl mfa mth mpic mgiv mkep mmod mcoe mnmo mnco mby mwk) sz) := by
  refine jm_metV (by decide +kernel) rfl rfl (Nat.le_of_ble_eq_true rfl) ?_
  intro p e s m args below meth c A Q ls C0 hP hD hl hret
  obtain ⟨hx, hb, hml, hr, hown, hts, hlocks, hA, hK, hE⟩ := C0
  have hS : va_S A s.heap s.heap [] := va_S.rf
  have hl : lv_has ls 10 [(0, .ref a_mo), (1, .int v1), (2, .int v2)] := hl
  unfold wp_X10_smooth at h
  have hP : va_P D vwCl [(a_mo, .inr (10, [.int ma, .int md, .ref a_mo2, .ref a_mo3, .ref a_mo4, .ref a_mo5, .ref a_mo6, .ref a_mo7, .ref a_mo8, .int mq, .int mz, .ref a_mo11, .int msz, .int mat, .int mpl, .int mfa, .ref a_mo16, .int mth])), (a_mo2, .inl (cI, 1024, .inl mpic)), (a_mo3, .inl (cI, 1024, .inl mgiv)), (a_mo4, .inl (cI, 1024, .inl mkep)), (a_mo5, .inl (cI, 64, .inl mmod)), (a_mo6, .inl (cI, 1024, .inl mcoe)), (a_mo7, .inl (cI, 64, .inl mnmo)), (a_mo8, .inl (cI, 1024, .inl mnco)), (a_mo11, .inl (cI, 8000, .inl mby)), (a_mo16, .inl (cI, 16, .inl mwk))] s.heap := hP
  have hD : va_D A [(a_mo, .inr (10, [.int ma, .int md, .ref a_mo2, .ref a_mo3, .ref a_mo4, .ref a_mo5, .ref a_mo6, .ref a_mo7, .ref a_mo8, .int mq, .int mz, .ref a_mo11, .int msz, .int mat, .int mpl, .int mfa, .ref a_mo16, .int mth])), (a_mo2, .inl (cI, 1024, .inl mpic)), (a_mo3, .inl (cI, 1024, .inl mgiv)), (a_mo4, .inl (cI, 1024, .inl mkep)), (a_mo5, .inl (cI, 64, .inl mmod)), (a_mo6, .inl (cI, 1024, .inl mcoe)), (a_mo7, .inl (cI, 64, .inl mnmo)), (a_mo8, .inl (cI, 1024, .inl mnco)), (a_mo11, .inl (cI, 8000, .inl mby)), (a_mo16, .inl (cI, 16, .inl mwk))] := hD
  have iX10 : ∀ w ∈ wsX100, w ∈ jw_X10_smooth := fun w h => List.mem_cons_of_mem _ (jm_iX10 w h)
  have lk16 := hts (.fieldLink RX10 16 "IntraMillModel" "picture" "[I") (List.mem_cons_of_mem _ mw_736)
  have lk58 := hts (.fieldLink RX10 58 "IntraMillModel" "qp" "I") (List.mem_cons_of_mem _ mw_743)
  refine lv_aload_n hx hb dX10_smooth_0 rfl (lv_at hl 0 rfl) ?_
  refine va_get (D := D) (ci := 10) (v := .ref a_mo2) (C := RX10) (T := TX10) (N := 18) hx hb hts iX10 hown hK hP 0 rfl rfl 2 (by decide) lk16 (fun _ h9 => h9) rfl dX10_smooth_1 ?_
  refine lv_iload_n hx hb dX10_smooth_4 rfl (lv_at hl 1 rfl) ?_
  refine lv_iconst (v := 2) hx hb dX10_smooth_5 (by decide) ?_
  refine lv_iload_n hx hb dX10_smooth_6 rfl (lv_at hl 2 rfl) ?_
  refine lv_imul hx hb dX10_smooth_7 ?_
  refine lv_isub hx hb dX10_smooth_8 ?_
  obtain ⟨hi_1, h⟩ := h
  refine va_iald hx hb hK hP 1 0 rfl rfl hi_1 dX10_smooth_9 ?_
  refine lv_topi (fun x3_2 ex3_2 => ?_)
  have h := h x3_2 ex3_2
  refine lv_istore_n (lv' := [(3, .int x3_2), (0, .ref a_mo), (1, .int v1), (2, .int v2)]) hx hb dX10_smooth_10 rfl hl (by decide) rfl (fun ls hl => ?_)
  refine lv_aload_n hx hb dX10_smooth_11 rfl (lv_at hl 1 rfl) ?_
  refine va_get (D := D) (ci := 10) (v := .ref a_mo2) (C := RX10) (T := TX10) (N := 18) hx hb hts iX10 hown hK hP 0 rfl rfl 2 (by decide) lk16 (fun _ h9 => h9) rfl dX10_smooth_12 ?_
  refine lv_iload_n hx hb dX10_smooth_15 rfl (lv_at hl 2 rfl) ?_
  refine lv_iload_n hx hb dX10_smooth_16 rfl (lv_at hl 3 rfl) ?_
  refine lv_isub hx hb dX10_smooth_17 ?_
  obtain ⟨hi_3, h⟩ := h
  refine va_iald hx hb hK hP 1 0 rfl rfl hi_3 dX10_smooth_18 ?_
  refine lv_topi (fun x4_4 ex4_4 => ?_)
  have h := h x4_4 ex4_4
  refine lv_istore (lv' := [(4, .int x4_4), (3, .int x3_2), (0, .ref a_mo), (1, .int v1), (2, .int v2)]) hx hb dX10_smooth_19 hl (by decide) rfl (fun ls hl => ?_)
  refine lv_aload_n hx hb dX10_smooth_21 rfl (lv_at hl 2 rfl) ?_
  refine va_get (D := D) (ci := 10) (v := .ref a_mo2) (C := RX10) (T := TX10) (N := 18) hx hb hts iX10 hown hK hP 0 rfl rfl 2 (by decide) lk16 (fun _ h9 => h9) rfl dX10_smooth_22 ?_
  refine lv_iload_n hx hb dX10_smooth_25 rfl (lv_at hl 3 rfl) ?_
  obtain ⟨hi_5, h⟩ := h
  refine va_iald hx hb hK hP 1 0 rfl rfl hi_5 dX10_smooth_26 ?_
  refine lv_topi (fun x5_6 ex5_6 => ?_)
  have h := h x5_6 ex5_6
  refine lv_istore (lv' := [(5, .int x5_6), (4, .int x4_4), (3, .int x3_2), (0, .ref a_mo), (1, .int v1), (2, .int v2)]) hx hb dX10_smooth_27 hl (by decide) rfl (fun ls hl => ?_)
  refine lv_aload_n hx hb dX10_smooth_29 rfl (lv_at hl 3 rfl) ?_
  refine va_get (D := D) (ci := 10) (v := .ref a_mo2) (C := RX10) (T := TX10) (N := 18) hx hb hts iX10 hown hK hP 0 rfl rfl 2 (by decide) lk16 (fun _ h9 => h9) rfl dX10_smooth_30 ?_
  refine lv_iload_n hx hb dX10_smooth_33 rfl (lv_at hl 4 rfl) ?_
  refine lv_iload_n hx hb dX10_smooth_34 rfl (lv_at hl 5 rfl) ?_
  refine lv_iadd hx hb dX10_smooth_35 ?_
  obtain ⟨hi_7, h⟩ := h
  refine va_iald hx hb hK hP 1 0 rfl rfl hi_7 dX10_smooth_36 ?_
  refine lv_topi (fun x6_8 ex6_8 => ?_)
  have h := h x6_8 ex6_8
  refine lv_istore (lv' := [(6, .int x6_8), (5, .int x5_6), (4, .int x4_4), (3, .int x3_2), (0, .ref a_mo), (1, .int v1), (2, .int v2)]) hx hb dX10_smooth_37 hl (by decide) rfl (fun ls hl => ?_)
  refine lv_aload_n hx hb dX10_smooth_39 rfl (lv_at hl 4 rfl) ?_
  refine va_get (D := D) (ci := 10) (v := .int mq) (C := RX10) (T := TX10) (N := 18) hx hb hts iX10 hown hK hP 0 rfl rfl 9 (by decide) lk58 (fun _ h9 => h9) rfl dX10_smooth_40 ?_
  refine lv_iconst (v := 4) hx hb dX10_smooth_43 (by decide) ?_
  refine lv_idiv hx hb dX10_smooth_44 (by decide) ?_
  refine lv_iconst (v := 1) hx hb dX10_smooth_45 (by decide) ?_
  refine lv_iadd hx hb dX10_smooth_46 ?_
  refine lv_topi (fun x7_9 ex7_9 => ?_)
  have h := h x7_9 ex7_9
  refine lv_istore (lv' := [(7, .int x7_9), (6, .int x6_8), (5, .int x5_6), (4, .int x4_4), (3, .int x3_2), (0, .ref a_mo), (1, .int v1), (2, .int v2)]) hx hb dX10_smooth_47 hl (by decide) rfl (fun ls hl => ?_)
  refine lv_iload hx hb dX10_smooth_49 (lv_at hl 3 rfl) ?_
  refine lv_iload hx hb dX10_smooth_51 (lv_at hl 2 rfl) ?_
  refine lv_isub hx hb dX10_smooth_53 ?_
  have hPc := hP.sub (ws' := []) [] rfl
  have hDc := hD.sub (ws' := []) [] (by decide) rfl
  have hFc := va_free (wc := []) hD hS hA [] rfl
  refine jm_calli (wr := [(a_mo, .inr (10, [.int ma, .int md, .ref a_mo2, .ref a_mo3, .ref a_mo4, .ref a_mo5, .ref a_mo6, .ref a_mo7, .ref a_mo8, .int mq, .int mz, .ref a_mo11, .int msz, .int mat, .int mpl, .int mfa, .ref a_mo16, .int mth])), (a_mo2, .inl (cI, 1024, .inl mpic)), (a_mo3, .inl (cI, 1024, .inl mgiv)), (a_mo4, .inl (cI, 1024, .inl mkep)), (a_mo5, .inl (cI, 64, .inl mmod)), (a_mo6, .inl (cI, 1024, .inl mcoe)), (a_mo7, .inl (cI, 64, .inl mnmo)), (a_mo8, .inl (cI, 1024, .inl mnco)), (a_mo11, .inl (cI, 8000, .inl mby)), (a_mo16, .inl (cI, 16, .inl mwk))]) (va_runS (As := [.int (x4_4 - x5_6)]) (rest := []) ⟨hx, hb, hml, hown, hts⟩ (c_X10_size l D cI cB tt s.heap.size (x4_4 - x5_6) h) (va_cwS 1 hts (jm_gS mw_874 mw_875 mw_65 mw_876) rfl rfl rfl (by decide +kernel) ⟨Nat.le_of_ble_eq_true rfl, Nat.le_of_ble_eq_true rfl⟩) ⟨jm_blind, jm_pre hK hE hS hPc hDc hFc _⟩ rfl rfl hl.1 rfl (lv_room (Nat.le_of_ble_eq_true rfl)) dX10_smooth_54 ⟨Nat.zero_le _, Nat.zero_le _⟩) hS hP hD [] [0, 1, 2, 3, 4, 5, 6, 7, 8, 9] rfl rfl (by decide) (by decide) hFc (fun r_10 u_10 H_10 locs hw hP hD hS => ?_)
  have h := hw
  have hP : va_P D vwCl [(a_mo, .inr (10, [.int ma, .int md, .ref a_mo2, .ref a_mo3, .ref a_mo4, .ref a_mo5, .ref a_mo6, .ref a_mo7, .ref a_mo8, .int mq, .int mz, .ref a_mo11, .int msz, .int mat, .int mpl, .int mfa, .ref a_mo16, .int mth])), (a_mo2, .inl (cI, 1024, .inl mpic)), (a_mo3, .inl (cI, 1024, .inl mgiv)), (a_mo4, .inl (cI, 1024, .inl mkep)), (a_mo5, .inl (cI, 64, .inl mmod)), (a_mo6, .inl (cI, 1024, .inl mcoe)), (a_mo7, .inl (cI, 64, .inl mnmo)), (a_mo8, .inl (cI, 1024, .inl mnco)), (a_mo11, .inl (cI, 8000, .inl mby)), (a_mo16, .inl (cI, 16, .inl mwk))] H_10 := hP.sub [0, 1, 2, 3, 4, 5, 6, 7, 8, 9] rfl
  have hD : va_D A [(a_mo, .inr (10, [.int ma, .int md, .ref a_mo2, .ref a_mo3, .ref a_mo4, .ref a_mo5, .ref a_mo6, .ref a_mo7, .ref a_mo8, .int mq, .int mz, .ref a_mo11, .int msz, .int mat, .int mpl, .int mfa, .ref a_mo16, .int mth])), (a_mo2, .inl (cI, 1024, .inl mpic)), (a_mo3, .inl (cI, 1024, .inl mgiv)), (a_mo4, .inl (cI, 1024, .inl mkep)), (a_mo5, .inl (cI, 64, .inl mmod)), (a_mo6, .inl (cI, 1024, .inl mcoe)), (a_mo7, .inl (cI, 64, .inl mnmo)), (a_mo8, .inl (cI, 1024, .inl mnco)), (a_mo11, .inl (cI, 8000, .inl mby)), (a_mo16, .inl (cI, 16, .inl mwk))] := hD.sub [0, 1, 2, 3, 4, 5, 6, 7, 8, 9] (by decide) rfl
  refine lv_aload_n hx hb dX10_smooth_57 rfl (lv_at hl 5 rfl) ?_
  refine va_get (D := D) (ci := 10) (v := .int mq) (C := RX10) (T := TX10) (N := 18) hx hb hts iX10 hown hK hP 0 rfl rfl 9 (by decide) lk58 (fun _ h9 => h9) rfl dX10_smooth_58 ?_
  refine lv_aload_n hx hb dX10_smooth_61 rfl (lv_at hl 5 rfl) ?_
  refine va_get (D := D) (ci := 10) (v := .int mq) (C := RX10) (T := TX10) (N := 18) hx hb hts iX10 hown hK hP 0 rfl rfl 9 (by decide) lk58 (fun _ h9 => h9) rfl dX10_smooth_62 ?_
  refine lv_imul hx hb dX10_smooth_65 ?_
  refine lv_bipush (v := 24) hx hb dX10_smooth_66 (by decide) ?_
  refine lv_idiv hx hb dX10_smooth_68 (by decide) ?_
  refine lv_icmp_ge (tgt := 97) hx hb dX10_smooth_69 (by decide) (fun c_11 => ?_) (fun c_11 => ?_)
  · have h := h.1 c_11
    exact hret (mpic) _ _ _ _ dX10_smooth_97 h hP hD hS
  · have h := h.2 c_11
    refine lv_iload hx hb dX10_smooth_72 (lv_at hl 3 rfl) ?_
    refine lv_iload_n hx hb dX10_smooth_74 rfl (lv_at hl 4 rfl) ?_
    refine lv_isub hx hb dX10_smooth_75 ?_
    have hPc := hP.sub (ws' := []) [] rfl
    have hDc := hD.sub (ws' := []) [] (by decide) rfl
    have hFc := va_free (wc := []) hD hS hA [] rfl
    refine jm_calli (wr := [(a_mo, .inr (10, [.int ma, .int md, .ref a_mo2, .ref a_mo3, .ref a_mo4, .ref a_mo5, .ref a_mo6, .ref a_mo7, .ref a_mo8, .int mq, .int mz, .ref a_mo11, .int msz, .int mat, .int mpl, .int mfa, .ref a_mo16, .int mth])), (a_mo2, .inl (cI, 1024, .inl mpic)), (a_mo3, .inl (cI, 1024, .inl mgiv)), (a_mo4, .inl (cI, 1024, .inl mkep)), (a_mo5, .inl (cI, 64, .inl mmod)), (a_mo6, .inl (cI, 1024, .inl mcoe)), (a_mo7, .inl (cI, 64, .inl mnmo)), (a_mo8, .inl (cI, 1024, .inl mnco)), (a_mo11, .inl (cI, 8000, .inl mby)), (a_mo16, .inl (cI, 16, .inl mwk))]) (va_runS (As := [.int (x4_4 - x3_2)]) (rest := []) ⟨hx, hb, hml, hown, hts⟩ (c_X10_size l D cI cB tt H_10.size (x4_4 - x3_2) h) (va_cwS 1 hts (jm_gS mw_874 mw_875 mw_65 mw_876) rfl rfl rfl (by decide +kernel) ⟨Nat.le_of_ble_eq_true rfl, Nat.le_of_ble_eq_true rfl⟩) ⟨jm_blind, jm_pre hK hE hS hPc hDc hFc _⟩ rfl rfl hl.1 rfl (lv_room (Nat.le_of_ble_eq_true rfl)) dX10_smooth_76 ⟨Nat.zero_le _, Nat.zero_le _⟩) hS hP hD [] [0, 1, 2, 3, 4, 5, 6, 7, 8, 9] rfl rfl (by decide) (by decide) hFc (fun r_12 u_12 H_12 locs hw hP hD hS => ?_)
    have h := hw
    have hP : va_P D vwCl [(a_mo, .inr (10, [.int ma, .int md, .ref a_mo2, .ref a_mo3, .ref a_mo4, .ref a_mo5, .ref a_mo6, .ref a_mo7, .ref a_mo8, .int mq, .int mz, .ref a_mo11, .int msz, .int mat, .int mpl, .int mfa, .ref a_mo16, .int mth])), (a_mo2, .inl (cI, 1024, .inl mpic)), (a_mo3, .inl (cI, 1024, .inl mgiv)), (a_mo4, .inl (cI, 1024, .inl mkep)), (a_mo5, .inl (cI, 64, .inl mmod)), (a_mo6, .inl (cI, 1024, .inl mcoe)), (a_mo7, .inl (cI, 64, .inl mnmo)), (a_mo8, .inl (cI, 1024, .inl mnco)), (a_mo11, .inl (cI, 8000, .inl mby)), (a_mo16, .inl (cI, 16, .inl mwk))] H_12 := hP.sub [0, 1, 2, 3, 4, 5, 6, 7, 8, 9] rfl
    have hD : va_D A [(a_mo, .inr (10, [.int ma, .int md, .ref a_mo2, .ref a_mo3, .ref a_mo4, .ref a_mo5, .ref a_mo6, .ref a_mo7, .ref a_mo8, .int mq, .int mz, .ref a_mo11, .int msz, .int mat, .int mpl, .int mfa, .ref a_mo16, .int mth])), (a_mo2, .inl (cI, 1024, .inl mpic)), (a_mo3, .inl (cI, 1024, .inl mgiv)), (a_mo4, .inl (cI, 1024, .inl mkep)), (a_mo5, .inl (cI, 64, .inl mmod)), (a_mo6, .inl (cI, 1024, .inl mcoe)), (a_mo7, .inl (cI, 64, .inl mnmo)), (a_mo8, .inl (cI, 1024, .inl mnco)), (a_mo11, .inl (cI, 8000, .inl mby)), (a_mo16, .inl (cI, 16, .inl mwk))] := hD.sub [0, 1, 2, 3, 4, 5, 6, 7, 8, 9] (by decide) rfl
    refine lv_iload hx hb dX10_smooth_79 (lv_at hl 0 rfl) ?_
    refine lv_icmp_ge (tgt := 97) hx hb dX10_smooth_81 (by decide) (fun c_13 => ?_) (fun c_13 => ?_)
    · have h := h.1 c_13
      exact hret (mpic) _ _ _ _ dX10_smooth_97 h hP hD hS
    · have h := h.2 c_13
      refine lv_iload hx hb dX10_smooth_84 (lv_at hl 1 rfl) ?_
      refine lv_iload hx hb dX10_smooth_86 (lv_at hl 2 rfl) ?_
      refine lv_isub hx hb dX10_smooth_88 ?_
      have hPc := hP.sub (ws' := []) [] rfl
      have hDc := hD.sub (ws' := []) [] (by decide) rfl
      have hFc := va_free (wc := []) hD hS hA [] rfl
      refine jm_calli (wr := [(a_mo, .inr (10, [.int ma, .int md, .ref a_mo2, .ref a_mo3, .ref a_mo4, .ref a_mo5, .ref a_mo6, .ref a_mo7, .ref a_mo8, .int mq, .int mz, .ref a_mo11, .int msz, .int mat, .int mpl, .int mfa, .ref a_mo16, .int mth])), (a_mo2, .inl (cI, 1024, .inl mpic)), (a_mo3, .inl (cI, 1024, .inl mgiv)), (a_mo4, .inl (cI, 1024, .inl mkep)), (a_mo5, .inl (cI, 64, .inl mmod)), (a_mo6, .inl (cI, 1024, .inl mcoe)), (a_mo7, .inl (cI, 64, .inl mnmo)), (a_mo8, .inl (cI, 1024, .inl mnco)), (a_mo11, .inl (cI, 8000, .inl mby)), (a_mo16, .inl (cI, 16, .inl mwk))]) (va_runS (As := [.int (x6_8 - x5_6)]) (rest := []) ⟨hx, hb, hml, hown, hts⟩ (c_X10_size l D cI cB tt H_12.size (x6_8 - x5_6) h) (va_cwS 1 hts (jm_gS mw_874 mw_875 mw_65 mw_876) rfl rfl rfl (by decide +kernel) ⟨Nat.le_of_ble_eq_true rfl, Nat.le_of_ble_eq_true rfl⟩) ⟨jm_blind, jm_pre hK hE hS hPc hDc hFc _⟩ rfl rfl hl.1 rfl (lv_room (Nat.le_of_ble_eq_true rfl)) dX10_smooth_89 ⟨Nat.zero_le _, Nat.zero_le _⟩) hS hP hD [] [0, 1, 2, 3, 4, 5, 6, 7, 8, 9] rfl rfl (by decide) (by decide) hFc (fun r_14 u_14 H_14 locs hw hP hD hS => ?_)
      have h := hw
      have hP : va_P D vwCl [(a_mo, .inr (10, [.int ma, .int md, .ref a_mo2, .ref a_mo3, .ref a_mo4, .ref a_mo5, .ref a_mo6, .ref a_mo7, .ref a_mo8, .int mq, .int mz, .ref a_mo11, .int msz, .int mat, .int mpl, .int mfa, .ref a_mo16, .int mth])), (a_mo2, .inl (cI, 1024, .inl mpic)), (a_mo3, .inl (cI, 1024, .inl mgiv)), (a_mo4, .inl (cI, 1024, .inl mkep)), (a_mo5, .inl (cI, 64, .inl mmod)), (a_mo6, .inl (cI, 1024, .inl mcoe)), (a_mo7, .inl (cI, 64, .inl mnmo)), (a_mo8, .inl (cI, 1024, .inl mnco)), (a_mo11, .inl (cI, 8000, .inl mby)), (a_mo16, .inl (cI, 16, .inl mwk))] H_14 := hP.sub [0, 1, 2, 3, 4, 5, 6, 7, 8, 9] rfl
      have hD : va_D A [(a_mo, .inr (10, [.int ma, .int md, .ref a_mo2, .ref a_mo3, .ref a_mo4, .ref a_mo5, .ref a_mo6, .ref a_mo7, .ref a_mo8, .int mq, .int mz, .ref a_mo11, .int msz, .int mat, .int mpl, .int mfa, .ref a_mo16, .int mth])), (a_mo2, .inl (cI, 1024, .inl mpic)), (a_mo3, .inl (cI, 1024, .inl mgiv)), (a_mo4, .inl (cI, 1024, .inl mkep)), (a_mo5, .inl (cI, 64, .inl mmod)), (a_mo6, .inl (cI, 1024, .inl mcoe)), (a_mo7, .inl (cI, 64, .inl mnmo)), (a_mo8, .inl (cI, 1024, .inl mnco)), (a_mo11, .inl (cI, 8000, .inl mby)), (a_mo16, .inl (cI, 16, .inl mwk))] := hD.sub [0, 1, 2, 3, 4, 5, 6, 7, 8, 9] (by decide) rfl
      refine lv_iload hx hb dX10_smooth_92 (lv_at hl 0 rfl) ?_
      refine lv_icmp_lt (tgt := 98) hx hb dX10_smooth_94 (by decide) (fun c_15 => ?_) (fun c_15 => ?_)
      · have h := h.1 c_15
        refine lv_aload_n hx hb dX10_smooth_98 rfl (lv_at hl 5 rfl) ?_
        refine va_get (D := D) (ci := 10) (v := .int mq) (C := RX10) (T := TX10) (N := 18) hx hb hts iX10 hown hK hP 0 rfl rfl 9 (by decide) lk58 (fun _ h9 => h9) rfl dX10_smooth_99 ?_
        refine lv_bipush (v := 8) hx hb dX10_smooth_102 (by decide) ?_
        refine lv_idiv hx hb dX10_smooth_104 (by decide) ?_
        refine lv_iconst (v := 1) hx hb dX10_smooth_105 (by decide) ?_
        refine lv_iadd hx hb dX10_smooth_106 ?_
        refine lv_topi (fun x8_16 ex8_16 => ?_)
        have h := h x8_16 ex8_16
        refine lv_istore (lv' := [(8, .int x8_16), (7, .int x7_9), (6, .int x6_8), (5, .int x5_6), (4, .int x4_4), (3, .int x3_2), (0, .ref a_mo), (1, .int v1), (2, .int v2)]) hx hb dX10_smooth_107 hl (by decide) rfl (fun ls hl => ?_)
        refine lv_iconst (v := 4) hx hb dX10_smooth_109 (by decide) ?_
        refine lv_iload hx hb dX10_smooth_110 (lv_at hl 3 rfl) ?_
        refine lv_iload hx hb dX10_smooth_112 (lv_at hl 4 rfl) ?_
        refine lv_isub hx hb dX10_smooth_114 ?_
        refine lv_imul hx hb dX10_smooth_115 ?_
        refine lv_iload_n hx hb dX10_smooth_116 rfl (lv_at hl 5 rfl) ?_
        refine lv_iadd hx hb dX10_smooth_117 ?_
        refine lv_iload hx hb dX10_smooth_118 (lv_at hl 2 rfl) ?_
        refine lv_isub hx hb dX10_smooth_120 ?_
        refine lv_iconst (v := 4) hx hb dX10_smooth_121 (by decide) ?_
        refine lv_iadd hx hb dX10_smooth_122 ?_
        refine lv_bipush (v := 8) hx hb dX10_smooth_123 (by decide) ?_
        have hPc := hP.sub (ws' := []) [] rfl
        have hDc := hD.sub (ws' := []) [] (by decide) rfl
        have hFc := va_free (wc := []) hD hS hA [] rfl
        refine jm_calli (wr := [(a_mo, .inr (10, [.int ma, .int md, .ref a_mo2, .ref a_mo3, .ref a_mo4, .ref a_mo5, .ref a_mo6, .ref a_mo7, .ref a_mo8, .int mq, .int mz, .ref a_mo11, .int msz, .int mat, .int mpl, .int mfa, .ref a_mo16, .int mth])), (a_mo2, .inl (cI, 1024, .inl mpic)), (a_mo3, .inl (cI, 1024, .inl mgiv)), (a_mo4, .inl (cI, 1024, .inl mkep)), (a_mo5, .inl (cI, 64, .inl mmod)), (a_mo6, .inl (cI, 1024, .inl mcoe)), (a_mo7, .inl (cI, 64, .inl mnmo)), (a_mo8, .inl (cI, 1024, .inl mnco)), (a_mo11, .inl (cI, 8000, .inl mby)), (a_mo16, .inl (cI, 16, .inl mwk))]) (va_runS (As := [.int ((((4 * (x5_6 - x4_4)) + x3_2) - x6_8) + 4), .int 8]) (rest := []) ⟨hx, hb, hml, hown, hts⟩ (c_X10_down l D cI cB tt H_14.size ((((4 * (x5_6 - x4_4)) + x3_2) - x6_8) + 4) 8 h) (va_cwS 2 hts (jm_gS mw_909 mw_910 mw_65 mw_911) rfl rfl rfl (by decide +kernel) ⟨Nat.le_of_ble_eq_true rfl, Nat.le_of_ble_eq_true rfl⟩) ⟨jm_blind, jm_pre hK hE hS hPc hDc hFc _⟩ rfl rfl hl.1 rfl (lv_room (Nat.le_of_ble_eq_true rfl)) dX10_smooth_125 ⟨Nat.zero_le _, Nat.zero_le _⟩) hS hP hD [] [0, 1, 2, 3, 4, 5, 6, 7, 8, 9] rfl rfl (by decide) (by decide) hFc (fun r_17 u_17 H_17 locs hw hP hD hS => ?_)
        have h := hw
        have hP : va_P D vwCl [(a_mo, .inr (10, [.int ma, .int md, .ref a_mo2, .ref a_mo3, .ref a_mo4, .ref a_mo5, .ref a_mo6, .ref a_mo7, .ref a_mo8, .int mq, .int mz, .ref a_mo11, .int msz, .int mat, .int mpl, .int mfa, .ref a_mo16, .int mth])), (a_mo2, .inl (cI, 1024, .inl mpic)), (a_mo3, .inl (cI, 1024, .inl mgiv)), (a_mo4, .inl (cI, 1024, .inl mkep)), (a_mo5, .inl (cI, 64, .inl mmod)), (a_mo6, .inl (cI, 1024, .inl mcoe)), (a_mo7, .inl (cI, 64, .inl mnmo)), (a_mo8, .inl (cI, 1024, .inl mnco)), (a_mo11, .inl (cI, 8000, .inl mby)), (a_mo16, .inl (cI, 16, .inl mwk))] H_17 := hP.sub [0, 1, 2, 3, 4, 5, 6, 7, 8, 9] rfl
        have hD : va_D A [(a_mo, .inr (10, [.int ma, .int md, .ref a_mo2, .ref a_mo3, .ref a_mo4, .ref a_mo5, .ref a_mo6, .ref a_mo7, .ref a_mo8, .int mq, .int mz, .ref a_mo11, .int msz, .int mat, .int mpl, .int mfa, .ref a_mo16, .int mth])), (a_mo2, .inl (cI, 1024, .inl mpic)), (a_mo3, .inl (cI, 1024, .inl mgiv)), (a_mo4, .inl (cI, 1024, .inl mkep)), (a_mo5, .inl (cI, 64, .inl mmod)), (a_mo6, .inl (cI, 1024, .inl mcoe)), (a_mo7, .inl (cI, 64, .inl mnmo)), (a_mo8, .inl (cI, 1024, .inl mnco)), (a_mo11, .inl (cI, 8000, .inl mby)), (a_mo16, .inl (cI, 16, .inl mwk))] := hD.sub [0, 1, 2, 3, 4, 5, 6, 7, 8, 9] (by decide) rfl
        refine lv_istore (lv' := [(9, .int r_17), (8, .int x8_16), (7, .int x7_9), (6, .int x6_8), (5, .int x5_6), (4, .int x4_4), (3, .int x3_2), (0, .ref a_mo), (1, .int v1), (2, .int v2)]) hx hb dX10_smooth_128 hl (by decide) rfl (fun ls hl => ?_)
        refine lv_iload hx hb dX10_smooth_130 (lv_at hl 0 rfl) ?_
        refine lv_iload hx hb dX10_smooth_132 (lv_at hl 1 rfl) ?_
        refine lv_ineg hx hb dX10_smooth_134 ?_
        obtain ⟨J_18, hj_18, h⟩ := jn1_out h
        have hJ_18 : ∀ (t0_18 : Int32), ∀ (H : Heap) (locs : List Loc) (ls : Array Slot), J_18 t0_18 → va_P D vwCl [(a_mo, .inr (10, [.int ma, .int md, .ref a_mo2, .ref a_mo3, .ref a_mo4, .ref a_mo5, .ref a_mo6, .ref a_mo7, .ref a_mo8, .int mq, .int mz, .ref a_mo11, .int msz, .int mat, .int mpl, .int mfa, .ref a_mo16, .int mth])), (a_mo2, .inl (cI, 1024, .inl mpic)), (a_mo3, .inl (cI, 1024, .inl mgiv)), (a_mo4, .inl (cI, 1024, .inl mkep)), (a_mo5, .inl (cI, 64, .inl mmod)), (a_mo6, .inl (cI, 1024, .inl mcoe)), (a_mo7, .inl (cI, 64, .inl mnmo)), (a_mo8, .inl (cI, 1024, .inl mnco)), (a_mo11, .inl (cI, 8000, .inl mby)), (a_mo16, .inl (cI, 16, .inl mwk))] H → va_D A [(a_mo, .inr (10, [.int ma, .int md, .ref a_mo2, .ref a_mo3, .ref a_mo4, .ref a_mo5, .ref a_mo6, .ref a_mo7, .ref a_mo8, .int mq, .int mz, .ref a_mo11, .int msz, .int mat, .int mpl, .int mfa, .ref a_mo16, .int mth])), (a_mo2, .inl (cI, 1024, .inl mpic)), (a_mo3, .inl (cI, 1024, .inl mgiv)), (a_mo4, .inl (cI, 1024, .inl mkep)), (a_mo5, .inl (cI, 64, .inl mmod)), (a_mo6, .inl (cI, 1024, .inl mcoe)), (a_mo7, .inl (cI, 64, .inl mnmo)), (a_mo8, .inl (cI, 1024, .inl mnco)), (a_mo11, .inl (cI, 8000, .inl mby)), (a_mo16, .inl (cI, 16, .inl mwk))] → va_S A s.heap H locs → lv_has ls 10 [(0, .ref a_mo), (1, .int v1), (2, .int v2), (3, .int x3_2), (4, .int x4_4), (5, .int x5_6), (6, .int x6_8), (7, .int x7_9), (8, .int x8_16), (9, .int r_17)] → W p l e rmX10_smooth s m args below meth c H locs 0 0 Q (F0 m 158 ls [.int t0_18]) := by
          intro t0_18 H locs ls h hP hD hS hl
          have h := hj_18 t0_18 h
          refine lv_istore (lv' := [(9, .int t0_18), (0, .ref a_mo), (1, .int v1), (2, .int v2), (3, .int x3_2), (4, .int x4_4), (5, .int x5_6), (6, .int x6_8), (7, .int x7_9), (8, .int x8_16)]) hx hb dX10_smooth_158 hl (by decide) rfl (fun ls hl => ?_)
          refine lv_aload_n hx hb dX10_smooth_160 rfl (lv_at hl 1 rfl) ?_
          refine va_get (D := D) (ci := 10) (v := .ref a_mo2) (C := RX10) (T := TX10) (N := 18) hx hb hts iX10 hown hK hP 0 rfl rfl 2 (by decide) lk16 (fun _ h9 => h9) rfl dX10_smooth_161 ?_
          refine lv_iload_n hx hb dX10_smooth_164 rfl (lv_at hl 2 rfl) ?_
          refine lv_iload_n hx hb dX10_smooth_165 rfl (lv_at hl 3 rfl) ?_
          refine lv_isub hx hb dX10_smooth_166 ?_
          refine lv_iload hx hb dX10_smooth_167 (lv_at hl 5 rfl) ?_
          refine lv_iload hx hb dX10_smooth_169 (lv_at hl 0 rfl) ?_
          refine lv_iadd hx hb dX10_smooth_171 ?_
          have hPc := hP.sub (ws' := []) [] rfl
          have hDc := hD.sub (ws' := []) [] (by decide) rfl
          have hFc := va_free (wc := []) hD hS hA [] rfl
          refine jm_calli (wr := [(a_mo, .inr (10, [.int ma, .int md, .ref a_mo2, .ref a_mo3, .ref a_mo4, .ref a_mo5, .ref a_mo6, .ref a_mo7, .ref a_mo8, .int mq, .int mz, .ref a_mo11, .int msz, .int mat, .int mpl, .int mfa, .ref a_mo16, .int mth])), (a_mo2, .inl (cI, 1024, .inl mpic)), (a_mo3, .inl (cI, 1024, .inl mgiv)), (a_mo4, .inl (cI, 1024, .inl mkep)), (a_mo5, .inl (cI, 64, .inl mmod)), (a_mo6, .inl (cI, 1024, .inl mcoe)), (a_mo7, .inl (cI, 64, .inl mnmo)), (a_mo8, .inl (cI, 1024, .inl mnco)), (a_mo11, .inl (cI, 8000, .inl mby)), (a_mo16, .inl (cI, 16, .inl mwk))]) (va_runS (As := [.int (x4_4 + t0_18)]) (rest := [.int (v1 - v2), .ref a_mo2]) ⟨hx, hb, hml, hown, hts⟩ (c_X10_clip l D cI cB tt H.size (x4_4 + t0_18) h) (va_cwS 1 hts (jm_gS mw_912 mw_913 mw_65 mw_914) rfl rfl rfl (by decide +kernel) ⟨Nat.le_of_ble_eq_true rfl, Nat.le_of_ble_eq_true rfl⟩) ⟨jm_blind, jm_pre hK hE hS hPc hDc hFc _⟩ rfl rfl hl.1 rfl (lv_room (Nat.le_of_ble_eq_true rfl)) dX10_smooth_172 ⟨Nat.zero_le _, Nat.zero_le _⟩) hS hP hD [] [0, 1, 2, 3, 4, 5, 6, 7, 8, 9] rfl rfl (by decide) (by decide) hFc (fun r_19 u_19 H_19 locs hw hP hD hS => ?_)
          have h := hw
          have hP : va_P D vwCl [(a_mo, .inr (10, [.int ma, .int md, .ref a_mo2, .ref a_mo3, .ref a_mo4, .ref a_mo5, .ref a_mo6, .ref a_mo7, .ref a_mo8, .int mq, .int mz, .ref a_mo11, .int msz, .int mat, .int mpl, .int mfa, .ref a_mo16, .int mth])), (a_mo2, .inl (cI, 1024, .inl mpic)), (a_mo3, .inl (cI, 1024, .inl mgiv)), (a_mo4, .inl (cI, 1024, .inl mkep)), (a_mo5, .inl (cI, 64, .inl mmod)), (a_mo6, .inl (cI, 1024, .inl mcoe)), (a_mo7, .inl (cI, 64, .inl mnmo)), (a_mo8, .inl (cI, 1024, .inl mnco)), (a_mo11, .inl (cI, 8000, .inl mby)), (a_mo16, .inl (cI, 16, .inl mwk))] H_19 := hP.sub [0, 1, 2, 3, 4, 5, 6, 7, 8, 9] rfl
          have hD : va_D A [(a_mo, .inr (10, [.int ma, .int md, .ref a_mo2, .ref a_mo3, .ref a_mo4, .ref a_mo5, .ref a_mo6, .ref a_mo7, .ref a_mo8, .int mq, .int mz, .ref a_mo11, .int msz, .int mat, .int mpl, .int mfa, .ref a_mo16, .int mth])), (a_mo2, .inl (cI, 1024, .inl mpic)), (a_mo3, .inl (cI, 1024, .inl mgiv)), (a_mo4, .inl (cI, 1024, .inl mkep)), (a_mo5, .inl (cI, 64, .inl mmod)), (a_mo6, .inl (cI, 1024, .inl mcoe)), (a_mo7, .inl (cI, 64, .inl mnmo)), (a_mo8, .inl (cI, 1024, .inl mnco)), (a_mo11, .inl (cI, 8000, .inl mby)), (a_mo16, .inl (cI, 16, .inl mwk))] := hD.sub [0, 1, 2, 3, 4, 5, 6, 7, 8, 9] (by decide) rfl
          obtain ⟨hi_20, h⟩ := h
          refine va_iast hx hb hK hP hD hS 1 0 rfl rfl hi_20 dX10_smooth_175 (fun H_21 locs hP hD hS => ?_)
          have hP : va_P D vwCl [(a_mo, .inr (10, [.int ma, .int md, .ref a_mo2, .ref a_mo3, .ref a_mo4, .ref a_mo5, .ref a_mo6, .ref a_mo7, .ref a_mo8, .int mq, .int mz, .ref a_mo11, .int msz, .int mat, .int mpl, .int mfa, .ref a_mo16, .int mth])), (a_mo2, .inl (cI, 1024, .inl (jup mpic (v1 - v2) r_19))), (a_mo3, .inl (cI, 1024, .inl mgiv)), (a_mo4, .inl (cI, 1024, .inl mkep)), (a_mo5, .inl (cI, 64, .inl mmod)), (a_mo6, .inl (cI, 1024, .inl mcoe)), (a_mo7, .inl (cI, 64, .inl mnmo)), (a_mo8, .inl (cI, 1024, .inl mnco)), (a_mo11, .inl (cI, 8000, .inl mby)), (a_mo16, .inl (cI, 16, .inl mwk))] H_21 := hP
          have hD : va_D A [(a_mo, .inr (10, [.int ma, .int md, .ref a_mo2, .ref a_mo3, .ref a_mo4, .ref a_mo5, .ref a_mo6, .ref a_mo7, .ref a_mo8, .int mq, .int mz, .ref a_mo11, .int msz, .int mat, .int mpl, .int mfa, .ref a_mo16, .int mth])), (a_mo2, .inl (cI, 1024, .inl (jup mpic (v1 - v2) r_19))), (a_mo3, .inl (cI, 1024, .inl mgiv)), (a_mo4, .inl (cI, 1024, .inl mkep)), (a_mo5, .inl (cI, 64, .inl mmod)), (a_mo6, .inl (cI, 1024, .inl mcoe)), (a_mo7, .inl (cI, 64, .inl mnmo)), (a_mo8, .inl (cI, 1024, .inl mnco)), (a_mo11, .inl (cI, 8000, .inl mby)), (a_mo16, .inl (cI, 16, .inl mwk))] := hD
          refine lv_aload_n hx hb dX10_smooth_176 rfl (lv_at hl 1 rfl) ?_
          refine va_get (D := D) (ci := 10) (v := .ref a_mo2) (C := RX10) (T := TX10) (N := 18) hx hb hts iX10 hown hK hP 0 rfl rfl 2 (by decide) lk16 (fun _ h9 => h9) rfl dX10_smooth_177 ?_
          refine lv_iload_n hx hb dX10_smooth_180 rfl (lv_at hl 2 rfl) ?_
          refine lv_iload hx hb dX10_smooth_181 (lv_at hl 6 rfl) ?_
          refine lv_iload hx hb dX10_smooth_183 (lv_at hl 0 rfl) ?_
          refine lv_isub hx hb dX10_smooth_185 ?_
          have hPc := hP.sub (ws' := []) [] rfl
          have hDc := hD.sub (ws' := []) [] (by decide) rfl
          have hFc := va_free (wc := []) hD hS hA [] rfl
          refine jm_calli (wr := [(a_mo, .inr (10, [.int ma, .int md, .ref a_mo2, .ref a_mo3, .ref a_mo4, .ref a_mo5, .ref a_mo6, .ref a_mo7, .ref a_mo8, .int mq, .int mz, .ref a_mo11, .int msz, .int mat, .int mpl, .int mfa, .ref a_mo16, .int mth])), (a_mo2, .inl (cI, 1024, .inl (jup mpic (v1 - v2) r_19))), (a_mo3, .inl (cI, 1024, .inl mgiv)), (a_mo4, .inl (cI, 1024, .inl mkep)), (a_mo5, .inl (cI, 64, .inl mmod)), (a_mo6, .inl (cI, 1024, .inl mcoe)), (a_mo7, .inl (cI, 64, .inl mnmo)), (a_mo8, .inl (cI, 1024, .inl mnco)), (a_mo11, .inl (cI, 8000, .inl mby)), (a_mo16, .inl (cI, 16, .inl mwk))]) (va_runS (As := [.int (x5_6 - t0_18)]) (rest := [.int v1, .ref a_mo2]) ⟨hx, hb, hml, hown, hts⟩ (c_X10_clip l D cI cB tt H_21.size (x5_6 - t0_18) h) (va_cwS 1 hts (jm_gS mw_912 mw_913 mw_65 mw_914) rfl rfl rfl (by decide +kernel) ⟨Nat.le_of_ble_eq_true rfl, Nat.le_of_ble_eq_true rfl⟩) ⟨jm_blind, jm_pre hK hE hS hPc hDc hFc _⟩ rfl rfl hl.1 rfl (lv_room (Nat.le_of_ble_eq_true rfl)) dX10_smooth_186 ⟨Nat.zero_le _, Nat.zero_le _⟩) hS hP hD [] [0, 1, 2, 3, 4, 5, 6, 7, 8, 9] rfl rfl (by decide) (by decide) hFc (fun r_22 u_22 H_22 locs hw hP hD hS => ?_)
          have h := hw
          have hP : va_P D vwCl [(a_mo, .inr (10, [.int ma, .int md, .ref a_mo2, .ref a_mo3, .ref a_mo4, .ref a_mo5, .ref a_mo6, .ref a_mo7, .ref a_mo8, .int mq, .int mz, .ref a_mo11, .int msz, .int mat, .int mpl, .int mfa, .ref a_mo16, .int mth])), (a_mo2, .inl (cI, 1024, .inl (jup mpic (v1 - v2) r_19))), (a_mo3, .inl (cI, 1024, .inl mgiv)), (a_mo4, .inl (cI, 1024, .inl mkep)), (a_mo5, .inl (cI, 64, .inl mmod)), (a_mo6, .inl (cI, 1024, .inl mcoe)), (a_mo7, .inl (cI, 64, .inl mnmo)), (a_mo8, .inl (cI, 1024, .inl mnco)), (a_mo11, .inl (cI, 8000, .inl mby)), (a_mo16, .inl (cI, 16, .inl mwk))] H_22 := hP.sub [0, 1, 2, 3, 4, 5, 6, 7, 8, 9] rfl
          have hD : va_D A [(a_mo, .inr (10, [.int ma, .int md, .ref a_mo2, .ref a_mo3, .ref a_mo4, .ref a_mo5, .ref a_mo6, .ref a_mo7, .ref a_mo8, .int mq, .int mz, .ref a_mo11, .int msz, .int mat, .int mpl, .int mfa, .ref a_mo16, .int mth])), (a_mo2, .inl (cI, 1024, .inl (jup mpic (v1 - v2) r_19))), (a_mo3, .inl (cI, 1024, .inl mgiv)), (a_mo4, .inl (cI, 1024, .inl mkep)), (a_mo5, .inl (cI, 64, .inl mmod)), (a_mo6, .inl (cI, 1024, .inl mcoe)), (a_mo7, .inl (cI, 64, .inl mnmo)), (a_mo8, .inl (cI, 1024, .inl mnco)), (a_mo11, .inl (cI, 8000, .inl mby)), (a_mo16, .inl (cI, 16, .inl mwk))] := hD.sub [0, 1, 2, 3, 4, 5, 6, 7, 8, 9] (by decide) rfl
          obtain ⟨hi_23, h⟩ := h
          refine va_iast hx hb hK hP hD hS 1 0 rfl rfl hi_23 dX10_smooth_189 (fun H_24 locs hP hD hS => ?_)
          have hP : va_P D vwCl [(a_mo, .inr (10, [.int ma, .int md, .ref a_mo2, .ref a_mo3, .ref a_mo4, .ref a_mo5, .ref a_mo6, .ref a_mo7, .ref a_mo8, .int mq, .int mz, .ref a_mo11, .int msz, .int mat, .int mpl, .int mfa, .ref a_mo16, .int mth])), (a_mo2, .inl (cI, 1024, .inl (jup (jup mpic (v1 - v2) r_19) v1 r_22))), (a_mo3, .inl (cI, 1024, .inl mgiv)), (a_mo4, .inl (cI, 1024, .inl mkep)), (a_mo5, .inl (cI, 64, .inl mmod)), (a_mo6, .inl (cI, 1024, .inl mcoe)), (a_mo7, .inl (cI, 64, .inl mnmo)), (a_mo8, .inl (cI, 1024, .inl mnco)), (a_mo11, .inl (cI, 8000, .inl mby)), (a_mo16, .inl (cI, 16, .inl mwk))] H_24 := hP
          have hD : va_D A [(a_mo, .inr (10, [.int ma, .int md, .ref a_mo2, .ref a_mo3, .ref a_mo4, .ref a_mo5, .ref a_mo6, .ref a_mo7, .ref a_mo8, .int mq, .int mz, .ref a_mo11, .int msz, .int mat, .int mpl, .int mfa, .ref a_mo16, .int mth])), (a_mo2, .inl (cI, 1024, .inl (jup (jup mpic (v1 - v2) r_19) v1 r_22))), (a_mo3, .inl (cI, 1024, .inl mgiv)), (a_mo4, .inl (cI, 1024, .inl mkep)), (a_mo5, .inl (cI, 64, .inl mmod)), (a_mo6, .inl (cI, 1024, .inl mcoe)), (a_mo7, .inl (cI, 64, .inl mnmo)), (a_mo8, .inl (cI, 1024, .inl mnco)), (a_mo11, .inl (cI, 8000, .inl mby)), (a_mo16, .inl (cI, 16, .inl mwk))] := hD
          exact hret (jup (jup mpic (v1 - v2) r_19) v1 r_22) _ _ _ _ dX10_smooth_190 h hP hD hS
        refine lv_icmp_ge (tgt := 144) hx hb dX10_smooth_135 (by decide) (fun c_25 => ?_) (fun c_25 => ?_)
        · have h := h.1 c_25
          refine lv_iload hx hb dX10_smooth_144 (lv_at hl 0 rfl) ?_
          refine lv_iload hx hb dX10_smooth_146 (lv_at hl 1 rfl) ?_
          refine lv_icmp_le (tgt := 156) hx hb dX10_smooth_148 (by decide) (fun c_26 => ?_) (fun c_26 => ?_)
          · have h := h.1 c_26
            refine lv_iload hx hb dX10_smooth_156 (lv_at hl 0 rfl) ?_
            exact hJ_18 r_17 H_17 _ _ h hP hD hS (lv_sub hl [7, 8, 9, 6, 5, 4, 3, 2, 1, 0] rfl)
          · have h := h.2 c_26
            refine lv_iload hx hb dX10_smooth_151 (lv_at hl 1 rfl) ?_
            refine lv_goto (tgt := 158) hx hb dX10_smooth_153 (by decide) ?_
            exact hJ_18 x8_16 H_17 _ _ h hP hD hS (lv_sub hl [7, 8, 9, 6, 5, 4, 3, 2, 1, 0] rfl)
        · have h := h.2 c_25
          refine lv_iload hx hb dX10_smooth_138 (lv_at hl 1 rfl) ?_
          refine lv_ineg hx hb dX10_smooth_140 ?_
          refine lv_goto (tgt := 158) hx hb dX10_smooth_141 (by decide) ?_
          exact hJ_18 (-x8_16) H_17 _ _ h hP hD hS (lv_sub hl [7, 8, 9, 6, 5, 4, 3, 2, 1, 0] rfl)
      · have h := h.2 c_15
        exact hret (mpic) _ _ _ _ dX10_smooth_97 h hP hD hS
def wl_X10_smoothAll_14 (v1 : Int32) (md : Int32) (mq : Int32) (K : (Nat → Int32) → Prop) (X : Int32 → (Nat → Int32) → Prop) : Nat → Int32 → (Nat → Int32) → Prop
  | 0, _, _ => False
  | n + 1, v2, mpic => (((4 * md) ≤ v2 → X v2 mpic) ∧ (¬ (4 * md) ≤ v2 → wp_X10_smooth mq mpic ((32 * v2) + v1) 1 (fun (mpic_3 : (Nat → Int32)) => ∀ x2_4 : Int32, x2_4 = v2 + 1 → wl_X10_smoothAll_14 v1 md mq K X n x2_4 mpic_3)))
def wl_X10_smoothAll_2 (ma : Int32) (md : Int32) (mq : Int32) (K : (Nat → Int32) → Prop) (X : Int32 → (Nat → Int32) → Prop) : Nat → Int32 → (Nat → Int32) → Prop
  | 0, _, _ => False
  | n + 1, v1, mpic => (((4 * ma) ≤ v1 → X v1 mpic) ∧ (¬ (4 * ma) ≤ v1 → ∃ k : Nat, wl_X10_smoothAll_14 v1 md mq K (fun (v2_5 : Int32) (mpic_5 : (Nat → Int32)) => ∀ x1_6 : Int32, x1_6 = v1 + 4 → wl_X10_smoothAll_2 ma md mq K X n x1_6 mpic_5) k 0 mpic))
def wl_X10_smoothAll_61 (v1 : Int32) (ma : Int32) (mq : Int32) (K : (Nat → Int32) → Prop) (X : Int32 → (Nat → Int32) → Prop) : Nat → Int32 → (Nat → Int32) → Prop
  | 0, _, _ => False
  | n + 1, v2, mpic => (((4 * ma) ≤ v2 → X v2 mpic) ∧ (¬ (4 * ma) ≤ v2 → wp_X10_smooth mq mpic ((32 * v1) + v2) 32 (fun (mpic_10 : (Nat → Int32)) => ∀ x2_11 : Int32, x2_11 = v2 + 1 → wl_X10_smoothAll_61 v1 ma mq K X n x2_11 mpic_10)))
def wl_X10_smoothAll_49 (ma : Int32) (md : Int32) (mq : Int32) (K : (Nat → Int32) → Prop) (X : Int32 → (Nat → Int32) → Prop) : Nat → Int32 → (Nat → Int32) → Prop
  | 0, _, _ => False
  | n + 1, v1, mpic => (((4 * md) ≤ v1 → X v1 mpic) ∧ (¬ (4 * md) ≤ v1 → ∃ k : Nat, wl_X10_smoothAll_61 v1 ma mq K (fun (v2_12 : Int32) (mpic_12 : (Nat → Int32)) => ∀ x1_13 : Int32, x1_13 = v1 + 4 → wl_X10_smoothAll_49 ma md mq K X n x1_13 mpic_12) k 0 mpic))
def wp_X10_smoothAll (ma : Int32) (md : Int32) (mq : Int32) (mpic : (Nat → Int32)) (K : (Nat → Int32) → Prop) : Prop := ∃ k : Nat, wl_X10_smoothAll_2 ma md mq K (fun (v1_7 : Int32) (mpic_7 : (Nat → Int32)) => ∃ k : Nat, wl_X10_smoothAll_49 ma md mq K (fun (v1_14 : Int32) (mpic_14 : (Nat → Int32)) => K mpic_14) k 4 mpic_7) k 4 mpic
abbrev jw_X10_smoothAll : List Cond := .code yX10_smoothAll cX10_smoothAll 3 none :: jmAll
abbrev rmX10_smoothAll : Room := { frames := 2, cells := 0, slots := 0, locals := 50 }
set_option maxHeartbeats 4000000 in
set_option maxRecDepth 100000 in
theorem c_X10_smoothAll (l : Launch) (D : va_G) (cI cB : ClassId) (tt : Nat × Nat × Nat) (a_mo a_mo2 a_mo3 a_mo4 a_mo5 a_mo6 a_mo7 a_mo8 a_mo11 a_mo16 : Nat) (sz : Nat) (ma : Int32) (md : Int32) (mq : Int32) (mz : Int32) (msz : Int32) (mat : Int32) (mpl : Int32) (mfa : Int32) (mth : Int32) (mpic : (Nat → Int32)) (mgiv : (Nat → Int32)) (mkep : (Nat → Int32)) (mmod : (Nat → Int32)) (mcoe : (Nat → Int32)) (mnmo : (Nat → Int32)) (mnco : (Nat → Int32)) (mby : (Nat → Int32)) (mwk : (Nat → Int32)) {K : (Nat → Int32) → Prop} (h : wp_X10_smoothAll ma md mq mpic K) : Met l yX10_smoothAll jw_X10_smoothAll rmX10_smoothAll (va_Pc [.ref a_mo] (jm_Pre D cI cB tt (wd_mo_mo2_mo3_mo4_mo5_mo6_mo7_mo8_mo11_mo16 cI cB a_mo a_mo2 a_mo3 a_mo4 a_mo5 a_mo6 a_mo7 a_mo8 a_mo11 a_mo16 ma md mq mz msz mat mpl mfa mth mpic mgiv mkep mmod mcoe mnmo mnco mby mwk) sz)) (va_Qv (fun (u : (Nat → Int32)) => K u) (jm_Post D cI cB (wd_mo_mo2_mo3_mo4_mo5_mo6_mo7_mo8_mo11_mo16 cI cB a_mo a_mo2 a_mo3 a_mo4 a_mo5 a_mo6 a_mo7 a_mo8 a_mo11 a_mo16 ma md mq mz msz mat mpl mfa mth mpic mgiv mkep mmod mcoe mnmo mnco mby mwk) sz (fun (u : (Nat → Int32)) => wd_mo_mo2_mo3_mo4_mo5_mo6_mo7_mo8_mo11_mo16 cI cB a_mo a_mo2 a_mo3 a_mo4 a_mo5 a_mo6 a_mo7 a_mo8 a_mo11 a_mo16 ma md mq mz msz mat mpl mfa mth u mgiv mkep mmod mcoe mnmo mnco mby mwk)) (va_A (wd_mo_mo2_mo3_mo4_mo5_mo6_mo7_mo8_mo11_mo16 cI cB a_mo a_mo2 a_mo3 a_mo4 a_mo5 a_mo6 a_mo7 a_mo8 a_mo11 a_mo16 ma md mq mz msz mat mpl mfa mth mpic mgiv mkep mmod mcoe mnmo mnco mby mwk) sz)) 0 0 (va_A (wd_mo_mo2_mo3_mo4_mo5_mo6_mo7_mo8_mo11_mo16 cI cB a_mo a_mo2 a_mo3 a_mo4 a_mo5 a_mo6 a_mo7 a_mo8 a_mo11 a_mo16 ma md mq mz msz mat mpl mfa mth mpic mgiv mkep mmod mcoe mnmo mnco mby mwk) sz) := by
  refine jm_metV (by decide +kernel) rfl rfl (Nat.le_of_ble_eq_true rfl) ?_
  intro p e s m args below meth c A Q ls C0 hP hD hl hret
  obtain ⟨hx, hb, hml, hr, hown, hts, hlocks, hA, hK, hE⟩ := C0
  have hS : va_S A s.heap s.heap [] := va_S.rf
  have hl : lv_has ls 3 [(0, .ref a_mo)] := hl
  unfold wp_X10_smoothAll at h
  have hP : va_P D vwCl [(a_mo, .inr (10, [.int ma, .int md, .ref a_mo2, .ref a_mo3, .ref a_mo4, .ref a_mo5, .ref a_mo6, .ref a_mo7, .ref a_mo8, .int mq, .int mz, .ref a_mo11, .int msz, .int mat, .int mpl, .int mfa, .ref a_mo16, .int mth])), (a_mo2, .inl (cI, 1024, .inl mpic)), (a_mo3, .inl (cI, 1024, .inl mgiv)), (a_mo4, .inl (cI, 1024, .inl mkep)), (a_mo5, .inl (cI, 64, .inl mmod)), (a_mo6, .inl (cI, 1024, .inl mcoe)), (a_mo7, .inl (cI, 64, .inl mnmo)), (a_mo8, .inl (cI, 1024, .inl mnco)), (a_mo11, .inl (cI, 8000, .inl mby)), (a_mo16, .inl (cI, 16, .inl mwk))] s.heap := hP
  have hD : va_D A [(a_mo, .inr (10, [.int ma, .int md, .ref a_mo2, .ref a_mo3, .ref a_mo4, .ref a_mo5, .ref a_mo6, .ref a_mo7, .ref a_mo8, .int mq, .int mz, .ref a_mo11, .int msz, .int mat, .int mpl, .int mfa, .ref a_mo16, .int mth])), (a_mo2, .inl (cI, 1024, .inl mpic)), (a_mo3, .inl (cI, 1024, .inl mgiv)), (a_mo4, .inl (cI, 1024, .inl mkep)), (a_mo5, .inl (cI, 64, .inl mmod)), (a_mo6, .inl (cI, 1024, .inl mcoe)), (a_mo7, .inl (cI, 64, .inl mnmo)), (a_mo8, .inl (cI, 1024, .inl mnco)), (a_mo11, .inl (cI, 8000, .inl mby)), (a_mo16, .inl (cI, 16, .inl mwk))] := hD
  have iX10 : ∀ w ∈ wsX100, w ∈ jw_X10_smoothAll := fun w h => List.mem_cons_of_mem _ (jm_iX10 w h)
  have lk13 := hts (.fieldLink RX10 13 "IntraMillModel" "down" "I") (List.mem_cons_of_mem _ mw_735)
  have lk7 := hts (.fieldLink RX10 7 "IntraMillModel" "across" "I") (List.mem_cons_of_mem _ mw_734)
  refine lv_iconst (v := 4) hx hb dX10_smoothAll_0 (by decide) ?_
  refine lv_istore_n (lv' := [(1, .int 4), (0, .ref a_mo)]) hx hb dX10_smoothAll_1 rfl hl (by decide) rfl (fun ls hl => ?_)
  obtain ⟨n_7, h⟩ := h
  have hL_7 : ∀ (_ : Unit) (X : Int32 → (Nat → Int32) → Prop), (∀ (v1 : Int32) (mpic : (Nat → Int32)), ∀ (H : Heap) (locs : List Loc) (ls : Array Slot), X v1 mpic → va_P D vwCl [(a_mo, .inr (10, [.int ma, .int md, .ref a_mo2, .ref a_mo3, .ref a_mo4, .ref a_mo5, .ref a_mo6, .ref a_mo7, .ref a_mo8, .int mq, .int mz, .ref a_mo11, .int msz, .int mat, .int mpl, .int mfa, .ref a_mo16, .int mth])), (a_mo2, .inl (cI, 1024, .inl mpic)), (a_mo3, .inl (cI, 1024, .inl mgiv)), (a_mo4, .inl (cI, 1024, .inl mkep)), (a_mo5, .inl (cI, 64, .inl mmod)), (a_mo6, .inl (cI, 1024, .inl mcoe)), (a_mo7, .inl (cI, 64, .inl mnmo)), (a_mo8, .inl (cI, 1024, .inl mnco)), (a_mo11, .inl (cI, 8000, .inl mby)), (a_mo16, .inl (cI, 16, .inl mwk))] H → va_D A [(a_mo, .inr (10, [.int ma, .int md, .ref a_mo2, .ref a_mo3, .ref a_mo4, .ref a_mo5, .ref a_mo6, .ref a_mo7, .ref a_mo8, .int mq, .int mz, .ref a_mo11, .int msz, .int mat, .int mpl, .int mfa, .ref a_mo16, .int mth])), (a_mo2, .inl (cI, 1024, .inl mpic)), (a_mo3, .inl (cI, 1024, .inl mgiv)), (a_mo4, .inl (cI, 1024, .inl mkep)), (a_mo5, .inl (cI, 64, .inl mmod)), (a_mo6, .inl (cI, 1024, .inl mcoe)), (a_mo7, .inl (cI, 64, .inl mnmo)), (a_mo8, .inl (cI, 1024, .inl mnco)), (a_mo11, .inl (cI, 8000, .inl mby)), (a_mo16, .inl (cI, 16, .inl mwk))] → va_S A s.heap H locs → lv_has ls 3 [(0, .ref a_mo), (1, .int v1)] → W p l e rmX10_smoothAll s m args below meth c H locs 0 0 Q (F0 m 47 ls [])) → ∀ (n : Nat) (v1 : Int32) (mpic : (Nat → Int32)), ∀ (H : Heap) (locs : List Loc) (ls : Array Slot), wl_X10_smoothAll_2 ma md mq K X n v1 mpic → va_P D vwCl [(a_mo, .inr (10, [.int ma, .int md, .ref a_mo2, .ref a_mo3, .ref a_mo4, .ref a_mo5, .ref a_mo6, .ref a_mo7, .ref a_mo8, .int mq, .int mz, .ref a_mo11, .int msz, .int mat, .int mpl, .int mfa, .ref a_mo16, .int mth])), (a_mo2, .inl (cI, 1024, .inl mpic)), (a_mo3, .inl (cI, 1024, .inl mgiv)), (a_mo4, .inl (cI, 1024, .inl mkep)), (a_mo5, .inl (cI, 64, .inl mmod)), (a_mo6, .inl (cI, 1024, .inl mcoe)), (a_mo7, .inl (cI, 64, .inl mnmo)), (a_mo8, .inl (cI, 1024, .inl mnco)), (a_mo11, .inl (cI, 8000, .inl mby)), (a_mo16, .inl (cI, 16, .inl mwk))] H → va_D A [(a_mo, .inr (10, [.int ma, .int md, .ref a_mo2, .ref a_mo3, .ref a_mo4, .ref a_mo5, .ref a_mo6, .ref a_mo7, .ref a_mo8, .int mq, .int mz, .ref a_mo11, .int msz, .int mat, .int mpl, .int mfa, .ref a_mo16, .int mth])), (a_mo2, .inl (cI, 1024, .inl mpic)), (a_mo3, .inl (cI, 1024, .inl mgiv)), (a_mo4, .inl (cI, 1024, .inl mkep)), (a_mo5, .inl (cI, 64, .inl mmod)), (a_mo6, .inl (cI, 1024, .inl mcoe)), (a_mo7, .inl (cI, 64, .inl mnmo)), (a_mo8, .inl (cI, 1024, .inl mnco)), (a_mo11, .inl (cI, 8000, .inl mby)), (a_mo16, .inl (cI, 16, .inl mwk))] → va_S A s.heap H locs → lv_has ls 3 [(0, .ref a_mo), (1, .int v1)] → W p l e rmX10_smoothAll s m args below meth c H locs 0 0 Q (F0 m 2 ls []) := by
    intro _ X hX n
    induction n with
    | zero => intro v1 mpic H locs ls h; rw [wl_X10_smoothAll_2] at h; exact h.elim
    | succ n ih =>
      intro v1 mpic H locs ls h hP hD hS hl
      rw [wl_X10_smoothAll_2] at h
      refine lv_iload_n hx hb dX10_smoothAll_2 rfl (lv_at hl 1 rfl) ?_
      refine lv_iconst (v := 4) hx hb dX10_smoothAll_3 (by decide) ?_
      refine lv_aload_n hx hb dX10_smoothAll_4 rfl (lv_at hl 0 rfl) ?_
      refine va_get (D := D) (ci := 10) (v := .int ma) (C := RX10) (T := TX10) (N := 18) hx hb hts iX10 hown hK hP 0 rfl rfl 0 (by decide) lk7 (fun _ h9 => h9) rfl dX10_smoothAll_5 ?_
      refine lv_imul hx hb dX10_smoothAll_8 ?_
      refine lv_icmp_ge (tgt := 47) hx hb dX10_smoothAll_9 (by decide) (fun c_1 => ?_) (fun c_1 => ?_)
      · have h := h.1 c_1
        exact hX v1 mpic H _ _ h hP hD hS (lv_sub hl [0, 1] rfl)
      · have h := h.2 c_1
        refine lv_iconst (v := 0) hx hb dX10_smoothAll_12 (by decide) ?_
        refine lv_istore_n (lv' := [(2, .int 0), (0, .ref a_mo), (1, .int v1)]) hx hb dX10_smoothAll_13 rfl hl (by decide) rfl (fun ls hl => ?_)
        obtain ⟨n_5, h⟩ := h
        have hL_5 : ∀ (v1 : Int32) (X : Int32 → (Nat → Int32) → Prop), (∀ (v2 : Int32) (mpic : (Nat → Int32)), ∀ (H : Heap) (locs : List Loc) (ls : Array Slot), X v2 mpic → va_P D vwCl [(a_mo, .inr (10, [.int ma, .int md, .ref a_mo2, .ref a_mo3, .ref a_mo4, .ref a_mo5, .ref a_mo6, .ref a_mo7, .ref a_mo8, .int mq, .int mz, .ref a_mo11, .int msz, .int mat, .int mpl, .int mfa, .ref a_mo16, .int mth])), (a_mo2, .inl (cI, 1024, .inl mpic)), (a_mo3, .inl (cI, 1024, .inl mgiv)), (a_mo4, .inl (cI, 1024, .inl mkep)), (a_mo5, .inl (cI, 64, .inl mmod)), (a_mo6, .inl (cI, 1024, .inl mcoe)), (a_mo7, .inl (cI, 64, .inl mnmo)), (a_mo8, .inl (cI, 1024, .inl mnco)), (a_mo11, .inl (cI, 8000, .inl mby)), (a_mo16, .inl (cI, 16, .inl mwk))] H → va_D A [(a_mo, .inr (10, [.int ma, .int md, .ref a_mo2, .ref a_mo3, .ref a_mo4, .ref a_mo5, .ref a_mo6, .ref a_mo7, .ref a_mo8, .int mq, .int mz, .ref a_mo11, .int msz, .int mat, .int mpl, .int mfa, .ref a_mo16, .int mth])), (a_mo2, .inl (cI, 1024, .inl mpic)), (a_mo3, .inl (cI, 1024, .inl mgiv)), (a_mo4, .inl (cI, 1024, .inl mkep)), (a_mo5, .inl (cI, 64, .inl mmod)), (a_mo6, .inl (cI, 1024, .inl mcoe)), (a_mo7, .inl (cI, 64, .inl mnmo)), (a_mo8, .inl (cI, 1024, .inl mnco)), (a_mo11, .inl (cI, 8000, .inl mby)), (a_mo16, .inl (cI, 16, .inl mwk))] → va_S A s.heap H locs → lv_has ls 3 [(0, .ref a_mo), (1, .int v1), (2, .int v2)] → W p l e rmX10_smoothAll s m args below meth c H locs 0 0 Q (F0 m 41 ls [])) → ∀ (n : Nat) (v2 : Int32) (mpic : (Nat → Int32)), ∀ (H : Heap) (locs : List Loc) (ls : Array Slot), wl_X10_smoothAll_14 v1 md mq K X n v2 mpic → va_P D vwCl [(a_mo, .inr (10, [.int ma, .int md, .ref a_mo2, .ref a_mo3, .ref a_mo4, .ref a_mo5, .ref a_mo6, .ref a_mo7, .ref a_mo8, .int mq, .int mz, .ref a_mo11, .int msz, .int mat, .int mpl, .int mfa, .ref a_mo16, .int mth])), (a_mo2, .inl (cI, 1024, .inl mpic)), (a_mo3, .inl (cI, 1024, .inl mgiv)), (a_mo4, .inl (cI, 1024, .inl mkep)), (a_mo5, .inl (cI, 64, .inl mmod)), (a_mo6, .inl (cI, 1024, .inl mcoe)), (a_mo7, .inl (cI, 64, .inl mnmo)), (a_mo8, .inl (cI, 1024, .inl mnco)), (a_mo11, .inl (cI, 8000, .inl mby)), (a_mo16, .inl (cI, 16, .inl mwk))] H → va_D A [(a_mo, .inr (10, [.int ma, .int md, .ref a_mo2, .ref a_mo3, .ref a_mo4, .ref a_mo5, .ref a_mo6, .ref a_mo7, .ref a_mo8, .int mq, .int mz, .ref a_mo11, .int msz, .int mat, .int mpl, .int mfa, .ref a_mo16, .int mth])), (a_mo2, .inl (cI, 1024, .inl mpic)), (a_mo3, .inl (cI, 1024, .inl mgiv)), (a_mo4, .inl (cI, 1024, .inl mkep)), (a_mo5, .inl (cI, 64, .inl mmod)), (a_mo6, .inl (cI, 1024, .inl mcoe)), (a_mo7, .inl (cI, 64, .inl mnmo)), (a_mo8, .inl (cI, 1024, .inl mnco)), (a_mo11, .inl (cI, 8000, .inl mby)), (a_mo16, .inl (cI, 16, .inl mwk))] → va_S A s.heap H locs → lv_has ls 3 [(0, .ref a_mo), (1, .int v1), (2, .int v2)] → W p l e rmX10_smoothAll s m args below meth c H locs 0 0 Q (F0 m 14 ls []) := by
          intro v1 X hX n
          induction n with
          | zero => intro v2 mpic H locs ls h; rw [wl_X10_smoothAll_14] at h; exact h.elim
          | succ n ih =>
            intro v2 mpic H locs ls h hP hD hS hl
            rw [wl_X10_smoothAll_14] at h
            refine lv_iload_n hx hb dX10_smoothAll_14 rfl (lv_at hl 2 rfl) ?_
            refine lv_iconst (v := 4) hx hb dX10_smoothAll_15 (by decide) ?_
            refine lv_aload_n hx hb dX10_smoothAll_16 rfl (lv_at hl 0 rfl) ?_
            refine va_get (D := D) (ci := 10) (v := .int md) (C := RX10) (T := TX10) (N := 18) hx hb hts iX10 hown hK hP 0 rfl rfl 1 (by decide) lk13 (fun _ h9 => h9) rfl dX10_smoothAll_17 ?_
            refine lv_imul hx hb dX10_smoothAll_20 ?_
            refine lv_icmp_ge (tgt := 41) hx hb dX10_smoothAll_21 (by decide) (fun c_2 => ?_) (fun c_2 => ?_)
            · have h := h.1 c_2
              exact hX v2 mpic H _ _ h hP hD hS (lv_sub hl [0, 1, 2] rfl)
            · have h := h.2 c_2
              refine lv_aload_n hx hb dX10_smoothAll_24 rfl (lv_at hl 0 rfl) ?_
              refine lv_bipush (v := 32) hx hb dX10_smoothAll_25 (by decide) ?_
              refine lv_iload_n hx hb dX10_smoothAll_27 rfl (lv_at hl 2 rfl) ?_
              refine lv_imul hx hb dX10_smoothAll_28 ?_
              refine lv_iload_n hx hb dX10_smoothAll_29 rfl (lv_at hl 1 rfl) ?_
              refine lv_iadd hx hb dX10_smoothAll_30 ?_
              refine lv_iconst (v := 1) hx hb dX10_smoothAll_31 (by decide) ?_
              have hPc := hP.sub (ws' := [(a_mo, .inr (10, [.int ma, .int md, .ref a_mo2, .ref a_mo3, .ref a_mo4, .ref a_mo5, .ref a_mo6, .ref a_mo7, .ref a_mo8, .int mq, .int mz, .ref a_mo11, .int msz, .int mat, .int mpl, .int mfa, .ref a_mo16, .int mth])), (a_mo2, .inl (cI, 1024, .inl mpic)), (a_mo3, .inl (cI, 1024, .inl mgiv)), (a_mo4, .inl (cI, 1024, .inl mkep)), (a_mo5, .inl (cI, 64, .inl mmod)), (a_mo6, .inl (cI, 1024, .inl mcoe)), (a_mo7, .inl (cI, 64, .inl mnmo)), (a_mo8, .inl (cI, 1024, .inl mnco)), (a_mo11, .inl (cI, 8000, .inl mby)), (a_mo16, .inl (cI, 16, .inl mwk))]) [0, 1, 2, 3, 4, 5, 6, 7, 8, 9] rfl
              have hDc := hD.sub (ws' := [(a_mo, .inr (10, [.int ma, .int md, .ref a_mo2, .ref a_mo3, .ref a_mo4, .ref a_mo5, .ref a_mo6, .ref a_mo7, .ref a_mo8, .int mq, .int mz, .ref a_mo11, .int msz, .int mat, .int mpl, .int mfa, .ref a_mo16, .int mth])), (a_mo2, .inl (cI, 1024, .inl mpic)), (a_mo3, .inl (cI, 1024, .inl mgiv)), (a_mo4, .inl (cI, 1024, .inl mkep)), (a_mo5, .inl (cI, 64, .inl mmod)), (a_mo6, .inl (cI, 1024, .inl mcoe)), (a_mo7, .inl (cI, 64, .inl mnmo)), (a_mo8, .inl (cI, 1024, .inl mnco)), (a_mo11, .inl (cI, 8000, .inl mby)), (a_mo16, .inl (cI, 16, .inl mwk))]) [0, 1, 2, 3, 4, 5, 6, 7, 8, 9] (by decide) rfl
              have hFc := va_free (wc := [(a_mo, .inr (10, [.int ma, .int md, .ref a_mo2, .ref a_mo3, .ref a_mo4, .ref a_mo5, .ref a_mo6, .ref a_mo7, .ref a_mo8, .int mq, .int mz, .ref a_mo11, .int msz, .int mat, .int mpl, .int mfa, .ref a_mo16, .int mth])), (a_mo2, .inl (cI, 1024, .inl mpic)), (a_mo3, .inl (cI, 1024, .inl mgiv)), (a_mo4, .inl (cI, 1024, .inl mkep)), (a_mo5, .inl (cI, 64, .inl mmod)), (a_mo6, .inl (cI, 1024, .inl mcoe)), (a_mo7, .inl (cI, 64, .inl mnmo)), (a_mo8, .inl (cI, 1024, .inl mnco)), (a_mo11, .inl (cI, 8000, .inl mby)), (a_mo16, .inl (cI, 16, .inl mwk))]) hD hS hA [0, 1, 2, 3, 4, 5, 6, 7, 8, 9] rfl
              refine jm_callv (wr := []) (va_runV (As := [.int ((32 * v2) + v1), .int 1]) (rest := []) ⟨hx, hb, hml, hown, hts⟩ (c_X10_smooth l D cI cB tt a_mo a_mo2 a_mo3 a_mo4 a_mo5 a_mo6 a_mo7 a_mo8 a_mo11 a_mo16 H.size ma md mq mz msz mat mpl mfa mth mpic mgiv mkep mmod mcoe mnmo mnco mby mwk ((32 * v2) + v1) 1 h) (cwV 2 hts (jm_gV mw_931 mw_933 mw_47 mw_65 mw_934) rfl rfl rfl (by decide +kernel) ⟨Nat.le_of_ble_eq_true rfl, Nat.le_of_ble_eq_true rfl⟩) ⟨jm_blind, va_recv hK hPc (ci := 10) (q0 := 0) rfl rfl, jm_pre hK hE hS hPc hDc hFc _⟩ rfl rfl hl.1 rfl (lv_room (Nat.le_of_ble_eq_true rfl)) dX10_smoothAll_32 ⟨Nat.zero_le _, Nat.zero_le _⟩) hS hP hD [0, 1, 2, 3, 4, 5, 6, 7, 8, 9] [] rfl rfl (by decide) (by decide) hFc (fun u_3 H_3 locs hw hP hD hS => ?_)
              obtain ⟨mpic_3, rfl⟩ : ∃ z, z = u_3 := ⟨_, rfl⟩
              have h := hw
              have hP : va_P D vwCl [(a_mo, .inr (10, [.int ma, .int md, .ref a_mo2, .ref a_mo3, .ref a_mo4, .ref a_mo5, .ref a_mo6, .ref a_mo7, .ref a_mo8, .int mq, .int mz, .ref a_mo11, .int msz, .int mat, .int mpl, .int mfa, .ref a_mo16, .int mth])), (a_mo2, .inl (cI, 1024, .inl mpic_3)), (a_mo3, .inl (cI, 1024, .inl mgiv)), (a_mo4, .inl (cI, 1024, .inl mkep)), (a_mo5, .inl (cI, 64, .inl mmod)), (a_mo6, .inl (cI, 1024, .inl mcoe)), (a_mo7, .inl (cI, 64, .inl mnmo)), (a_mo8, .inl (cI, 1024, .inl mnco)), (a_mo11, .inl (cI, 8000, .inl mby)), (a_mo16, .inl (cI, 16, .inl mwk))] H_3 := hP.sub [0, 1, 2, 3, 4, 5, 6, 7, 8, 9] rfl
              have hD : va_D A [(a_mo, .inr (10, [.int ma, .int md, .ref a_mo2, .ref a_mo3, .ref a_mo4, .ref a_mo5, .ref a_mo6, .ref a_mo7, .ref a_mo8, .int mq, .int mz, .ref a_mo11, .int msz, .int mat, .int mpl, .int mfa, .ref a_mo16, .int mth])), (a_mo2, .inl (cI, 1024, .inl mpic_3)), (a_mo3, .inl (cI, 1024, .inl mgiv)), (a_mo4, .inl (cI, 1024, .inl mkep)), (a_mo5, .inl (cI, 64, .inl mmod)), (a_mo6, .inl (cI, 1024, .inl mcoe)), (a_mo7, .inl (cI, 64, .inl mnmo)), (a_mo8, .inl (cI, 1024, .inl mnco)), (a_mo11, .inl (cI, 8000, .inl mby)), (a_mo16, .inl (cI, 16, .inl mwk))] := hD.sub [0, 1, 2, 3, 4, 5, 6, 7, 8, 9] (by decide) rfl
              obtain ⟨x2_4, ex2_4⟩ : ∃ y : Int32, y = v2 + 1 := ⟨_, rfl⟩
              have h := h x2_4 ex2_4
              refine lv_iinc (v := x2_4) (lv' := [(2, .int x2_4), (0, .ref a_mo), (1, .int v1)]) hx hb dX10_smoothAll_35 hl (k := 2) rfl (by rw [ex2_4]; rfl) (by decide) rfl (fun ls hl => ?_)
              refine lv_goto (tgt := 14) hx hb dX10_smoothAll_38 (by decide) ?_
              exact ih x2_4 mpic_3 H_3 _ _ h hP hD hS (lv_sub hl [1, 2, 0] rfl)
        refine hL_5 v1 _ ?_ n_5 0 mpic H _ _ h hP hD hS (lv_sub hl [1, 2, 0] rfl)
        intro v2_5 mpic_5 H locs ls h hP hD hS hl
        obtain ⟨x1_6, ex1_6⟩ : ∃ y : Int32, y = v1 + 4 := ⟨_, rfl⟩
        have h := h x1_6 ex1_6
        refine lv_iinc (v := x1_6) (lv' := [(1, .int x1_6), (0, .ref a_mo), (2, .int v2_5)]) hx hb dX10_smoothAll_41 hl (k := 1) rfl (by rw [ex1_6]; rfl) (by decide) rfl (fun ls hl => ?_)
        refine lv_goto (tgt := 2) hx hb dX10_smoothAll_44 (by decide) ?_
        exact ih x1_6 mpic_5 H _ _ h hP hD hS (lv_sub hl [1, 0] rfl)
  refine hL_7 () _ ?_ n_7 4 mpic s.heap _ _ h hP hD hS (lv_sub hl [1, 0] rfl)
  intro v1_7 mpic_7 H locs ls h hP hD hS hl
  refine lv_iconst (v := 4) hx hb dX10_smoothAll_47 (by decide) ?_
  refine lv_istore_n (lv' := [(1, .int 4), (0, .ref a_mo)]) hx hb dX10_smoothAll_48 rfl hl (by decide) rfl (fun ls hl => ?_)
  obtain ⟨n_14, h⟩ := h
  have hL_14 : ∀ (_ : Unit) (X : Int32 → (Nat → Int32) → Prop), (∀ (v1 : Int32) (mpic : (Nat → Int32)), ∀ (H : Heap) (locs : List Loc) (ls : Array Slot), X v1 mpic → va_P D vwCl [(a_mo, .inr (10, [.int ma, .int md, .ref a_mo2, .ref a_mo3, .ref a_mo4, .ref a_mo5, .ref a_mo6, .ref a_mo7, .ref a_mo8, .int mq, .int mz, .ref a_mo11, .int msz, .int mat, .int mpl, .int mfa, .ref a_mo16, .int mth])), (a_mo2, .inl (cI, 1024, .inl mpic)), (a_mo3, .inl (cI, 1024, .inl mgiv)), (a_mo4, .inl (cI, 1024, .inl mkep)), (a_mo5, .inl (cI, 64, .inl mmod)), (a_mo6, .inl (cI, 1024, .inl mcoe)), (a_mo7, .inl (cI, 64, .inl mnmo)), (a_mo8, .inl (cI, 1024, .inl mnco)), (a_mo11, .inl (cI, 8000, .inl mby)), (a_mo16, .inl (cI, 16, .inl mwk))] H → va_D A [(a_mo, .inr (10, [.int ma, .int md, .ref a_mo2, .ref a_mo3, .ref a_mo4, .ref a_mo5, .ref a_mo6, .ref a_mo7, .ref a_mo8, .int mq, .int mz, .ref a_mo11, .int msz, .int mat, .int mpl, .int mfa, .ref a_mo16, .int mth])), (a_mo2, .inl (cI, 1024, .inl mpic)), (a_mo3, .inl (cI, 1024, .inl mgiv)), (a_mo4, .inl (cI, 1024, .inl mkep)), (a_mo5, .inl (cI, 64, .inl mmod)), (a_mo6, .inl (cI, 1024, .inl mcoe)), (a_mo7, .inl (cI, 64, .inl mnmo)), (a_mo8, .inl (cI, 1024, .inl mnco)), (a_mo11, .inl (cI, 8000, .inl mby)), (a_mo16, .inl (cI, 16, .inl mwk))] → va_S A s.heap H locs → lv_has ls 3 [(0, .ref a_mo), (1, .int v1)] → W p l e rmX10_smoothAll s m args below meth c H locs 0 0 Q (F0 m 95 ls [])) → ∀ (n : Nat) (v1 : Int32) (mpic : (Nat → Int32)), ∀ (H : Heap) (locs : List Loc) (ls : Array Slot), wl_X10_smoothAll_49 ma md mq K X n v1 mpic → va_P D vwCl [(a_mo, .inr (10, [.int ma, .int md, .ref a_mo2, .ref a_mo3, .ref a_mo4, .ref a_mo5, .ref a_mo6, .ref a_mo7, .ref a_mo8, .int mq, .int mz, .ref a_mo11, .int msz, .int mat, .int mpl, .int mfa, .ref a_mo16, .int mth])), (a_mo2, .inl (cI, 1024, .inl mpic)), (a_mo3, .inl (cI, 1024, .inl mgiv)), (a_mo4, .inl (cI, 1024, .inl mkep)), (a_mo5, .inl (cI, 64, .inl mmod)), (a_mo6, .inl (cI, 1024, .inl mcoe)), (a_mo7, .inl (cI, 64, .inl mnmo)), (a_mo8, .inl (cI, 1024, .inl mnco)), (a_mo11, .inl (cI, 8000, .inl mby)), (a_mo16, .inl (cI, 16, .inl mwk))] H → va_D A [(a_mo, .inr (10, [.int ma, .int md, .ref a_mo2, .ref a_mo3, .ref a_mo4, .ref a_mo5, .ref a_mo6, .ref a_mo7, .ref a_mo8, .int mq, .int mz, .ref a_mo11, .int msz, .int mat, .int mpl, .int mfa, .ref a_mo16, .int mth])), (a_mo2, .inl (cI, 1024, .inl mpic)), (a_mo3, .inl (cI, 1024, .inl mgiv)), (a_mo4, .inl (cI, 1024, .inl mkep)), (a_mo5, .inl (cI, 64, .inl mmod)), (a_mo6, .inl (cI, 1024, .inl mcoe)), (a_mo7, .inl (cI, 64, .inl mnmo)), (a_mo8, .inl (cI, 1024, .inl mnco)), (a_mo11, .inl (cI, 8000, .inl mby)), (a_mo16, .inl (cI, 16, .inl mwk))] → va_S A s.heap H locs → lv_has ls 3 [(0, .ref a_mo), (1, .int v1)] → W p l e rmX10_smoothAll s m args below meth c H locs 0 0 Q (F0 m 49 ls []) := by
    intro _ X hX n
    induction n with
    | zero => intro v1 mpic H locs ls h; rw [wl_X10_smoothAll_49] at h; exact h.elim
    | succ n ih =>
      intro v1 mpic H locs ls h hP hD hS hl
      rw [wl_X10_smoothAll_49] at h
      refine lv_iload_n hx hb dX10_smoothAll_49 rfl (lv_at hl 1 rfl) ?_
      refine lv_iconst (v := 4) hx hb dX10_smoothAll_50 (by decide) ?_
      refine lv_aload_n hx hb dX10_smoothAll_51 rfl (lv_at hl 0 rfl) ?_
      refine va_get (D := D) (ci := 10) (v := .int md) (C := RX10) (T := TX10) (N := 18) hx hb hts iX10 hown hK hP 0 rfl rfl 1 (by decide) lk13 (fun _ h9 => h9) rfl dX10_smoothAll_52 ?_
      refine lv_imul hx hb dX10_smoothAll_55 ?_
      refine lv_icmp_ge (tgt := 95) hx hb dX10_smoothAll_56 (by decide) (fun c_8 => ?_) (fun c_8 => ?_)
      · have h := h.1 c_8
        exact hX v1 mpic H _ _ h hP hD hS (lv_sub hl [0, 1] rfl)
      · have h := h.2 c_8
        refine lv_iconst (v := 0) hx hb dX10_smoothAll_59 (by decide) ?_
        refine lv_istore_n (lv' := [(2, .int 0), (0, .ref a_mo), (1, .int v1)]) hx hb dX10_smoothAll_60 rfl hl (by decide) rfl (fun ls hl => ?_)
        obtain ⟨n_12, h⟩ := h
        have hL_12 : ∀ (v1 : Int32) (X : Int32 → (Nat → Int32) → Prop), (∀ (v2 : Int32) (mpic : (Nat → Int32)), ∀ (H : Heap) (locs : List Loc) (ls : Array Slot), X v2 mpic → va_P D vwCl [(a_mo, .inr (10, [.int ma, .int md, .ref a_mo2, .ref a_mo3, .ref a_mo4, .ref a_mo5, .ref a_mo6, .ref a_mo7, .ref a_mo8, .int mq, .int mz, .ref a_mo11, .int msz, .int mat, .int mpl, .int mfa, .ref a_mo16, .int mth])), (a_mo2, .inl (cI, 1024, .inl mpic)), (a_mo3, .inl (cI, 1024, .inl mgiv)), (a_mo4, .inl (cI, 1024, .inl mkep)), (a_mo5, .inl (cI, 64, .inl mmod)), (a_mo6, .inl (cI, 1024, .inl mcoe)), (a_mo7, .inl (cI, 64, .inl mnmo)), (a_mo8, .inl (cI, 1024, .inl mnco)), (a_mo11, .inl (cI, 8000, .inl mby)), (a_mo16, .inl (cI, 16, .inl mwk))] H → va_D A [(a_mo, .inr (10, [.int ma, .int md, .ref a_mo2, .ref a_mo3, .ref a_mo4, .ref a_mo5, .ref a_mo6, .ref a_mo7, .ref a_mo8, .int mq, .int mz, .ref a_mo11, .int msz, .int mat, .int mpl, .int mfa, .ref a_mo16, .int mth])), (a_mo2, .inl (cI, 1024, .inl mpic)), (a_mo3, .inl (cI, 1024, .inl mgiv)), (a_mo4, .inl (cI, 1024, .inl mkep)), (a_mo5, .inl (cI, 64, .inl mmod)), (a_mo6, .inl (cI, 1024, .inl mcoe)), (a_mo7, .inl (cI, 64, .inl mnmo)), (a_mo8, .inl (cI, 1024, .inl mnco)), (a_mo11, .inl (cI, 8000, .inl mby)), (a_mo16, .inl (cI, 16, .inl mwk))] → va_S A s.heap H locs → lv_has ls 3 [(0, .ref a_mo), (1, .int v1), (2, .int v2)] → W p l e rmX10_smoothAll s m args below meth c H locs 0 0 Q (F0 m 89 ls [])) → ∀ (n : Nat) (v2 : Int32) (mpic : (Nat → Int32)), ∀ (H : Heap) (locs : List Loc) (ls : Array Slot), wl_X10_smoothAll_61 v1 ma mq K X n v2 mpic → va_P D vwCl [(a_mo, .inr (10, [.int ma, .int md, .ref a_mo2, .ref a_mo3, .ref a_mo4, .ref a_mo5, .ref a_mo6, .ref a_mo7, .ref a_mo8, .int mq, .int mz, .ref a_mo11, .int msz, .int mat, .int mpl, .int mfa, .ref a_mo16, .int mth])), (a_mo2, .inl (cI, 1024, .inl mpic)), (a_mo3, .inl (cI, 1024, .inl mgiv)), (a_mo4, .inl (cI, 1024, .inl mkep)), (a_mo5, .inl (cI, 64, .inl mmod)), (a_mo6, .inl (cI, 1024, .inl mcoe)), (a_mo7, .inl (cI, 64, .inl mnmo)), (a_mo8, .inl (cI, 1024, .inl mnco)), (a_mo11, .inl (cI, 8000, .inl mby)), (a_mo16, .inl (cI, 16, .inl mwk))] H → va_D A [(a_mo, .inr (10, [.int ma, .int md, .ref a_mo2, .ref a_mo3, .ref a_mo4, .ref a_mo5, .ref a_mo6, .ref a_mo7, .ref a_mo8, .int mq, .int mz, .ref a_mo11, .int msz, .int mat, .int mpl, .int mfa, .ref a_mo16, .int mth])), (a_mo2, .inl (cI, 1024, .inl mpic)), (a_mo3, .inl (cI, 1024, .inl mgiv)), (a_mo4, .inl (cI, 1024, .inl mkep)), (a_mo5, .inl (cI, 64, .inl mmod)), (a_mo6, .inl (cI, 1024, .inl mcoe)), (a_mo7, .inl (cI, 64, .inl mnmo)), (a_mo8, .inl (cI, 1024, .inl mnco)), (a_mo11, .inl (cI, 8000, .inl mby)), (a_mo16, .inl (cI, 16, .inl mwk))] → va_S A s.heap H locs → lv_has ls 3 [(0, .ref a_mo), (1, .int v1), (2, .int v2)] → W p l e rmX10_smoothAll s m args below meth c H locs 0 0 Q (F0 m 61 ls []) := by
          intro v1 X hX n
          induction n with
          | zero => intro v2 mpic H locs ls h; rw [wl_X10_smoothAll_61] at h; exact h.elim
          | succ n ih =>
            intro v2 mpic H locs ls h hP hD hS hl
            rw [wl_X10_smoothAll_61] at h
            refine lv_iload_n hx hb dX10_smoothAll_61 rfl (lv_at hl 2 rfl) ?_
            refine lv_iconst (v := 4) hx hb dX10_smoothAll_62 (by decide) ?_
            refine lv_aload_n hx hb dX10_smoothAll_63 rfl (lv_at hl 0 rfl) ?_
            refine va_get (D := D) (ci := 10) (v := .int ma) (C := RX10) (T := TX10) (N := 18) hx hb hts iX10 hown hK hP 0 rfl rfl 0 (by decide) lk7 (fun _ h9 => h9) rfl dX10_smoothAll_64 ?_
            refine lv_imul hx hb dX10_smoothAll_67 ?_
            refine lv_icmp_ge (tgt := 89) hx hb dX10_smoothAll_68 (by decide) (fun c_9 => ?_) (fun c_9 => ?_)
            · have h := h.1 c_9
              exact hX v2 mpic H _ _ h hP hD hS (lv_sub hl [0, 1, 2] rfl)
            · have h := h.2 c_9
              refine lv_aload_n hx hb dX10_smoothAll_71 rfl (lv_at hl 0 rfl) ?_
              refine lv_bipush (v := 32) hx hb dX10_smoothAll_72 (by decide) ?_
              refine lv_iload_n hx hb dX10_smoothAll_74 rfl (lv_at hl 1 rfl) ?_
              refine lv_imul hx hb dX10_smoothAll_75 ?_
              refine lv_iload_n hx hb dX10_smoothAll_76 rfl (lv_at hl 2 rfl) ?_
              refine lv_iadd hx hb dX10_smoothAll_77 ?_
              refine lv_bipush (v := 32) hx hb dX10_smoothAll_78 (by decide) ?_
              have hPc := hP.sub (ws' := [(a_mo, .inr (10, [.int ma, .int md, .ref a_mo2, .ref a_mo3, .ref a_mo4, .ref a_mo5, .ref a_mo6, .ref a_mo7, .ref a_mo8, .int mq, .int mz, .ref a_mo11, .int msz, .int mat, .int mpl, .int mfa, .ref a_mo16, .int mth])), (a_mo2, .inl (cI, 1024, .inl mpic)), (a_mo3, .inl (cI, 1024, .inl mgiv)), (a_mo4, .inl (cI, 1024, .inl mkep)), (a_mo5, .inl (cI, 64, .inl mmod)), (a_mo6, .inl (cI, 1024, .inl mcoe)), (a_mo7, .inl (cI, 64, .inl mnmo)), (a_mo8, .inl (cI, 1024, .inl mnco)), (a_mo11, .inl (cI, 8000, .inl mby)), (a_mo16, .inl (cI, 16, .inl mwk))]) [0, 1, 2, 3, 4, 5, 6, 7, 8, 9] rfl
              have hDc := hD.sub (ws' := [(a_mo, .inr (10, [.int ma, .int md, .ref a_mo2, .ref a_mo3, .ref a_mo4, .ref a_mo5, .ref a_mo6, .ref a_mo7, .ref a_mo8, .int mq, .int mz, .ref a_mo11, .int msz, .int mat, .int mpl, .int mfa, .ref a_mo16, .int mth])), (a_mo2, .inl (cI, 1024, .inl mpic)), (a_mo3, .inl (cI, 1024, .inl mgiv)), (a_mo4, .inl (cI, 1024, .inl mkep)), (a_mo5, .inl (cI, 64, .inl mmod)), (a_mo6, .inl (cI, 1024, .inl mcoe)), (a_mo7, .inl (cI, 64, .inl mnmo)), (a_mo8, .inl (cI, 1024, .inl mnco)), (a_mo11, .inl (cI, 8000, .inl mby)), (a_mo16, .inl (cI, 16, .inl mwk))]) [0, 1, 2, 3, 4, 5, 6, 7, 8, 9] (by decide) rfl
              have hFc := va_free (wc := [(a_mo, .inr (10, [.int ma, .int md, .ref a_mo2, .ref a_mo3, .ref a_mo4, .ref a_mo5, .ref a_mo6, .ref a_mo7, .ref a_mo8, .int mq, .int mz, .ref a_mo11, .int msz, .int mat, .int mpl, .int mfa, .ref a_mo16, .int mth])), (a_mo2, .inl (cI, 1024, .inl mpic)), (a_mo3, .inl (cI, 1024, .inl mgiv)), (a_mo4, .inl (cI, 1024, .inl mkep)), (a_mo5, .inl (cI, 64, .inl mmod)), (a_mo6, .inl (cI, 1024, .inl mcoe)), (a_mo7, .inl (cI, 64, .inl mnmo)), (a_mo8, .inl (cI, 1024, .inl mnco)), (a_mo11, .inl (cI, 8000, .inl mby)), (a_mo16, .inl (cI, 16, .inl mwk))]) hD hS hA [0, 1, 2, 3, 4, 5, 6, 7, 8, 9] rfl
              refine jm_callv (wr := []) (va_runV (As := [.int ((32 * v1) + v2), .int 32]) (rest := []) ⟨hx, hb, hml, hown, hts⟩ (c_X10_smooth l D cI cB tt a_mo a_mo2 a_mo3 a_mo4 a_mo5 a_mo6 a_mo7 a_mo8 a_mo11 a_mo16 H.size ma md mq mz msz mat mpl mfa mth mpic mgiv mkep mmod mcoe mnmo mnco mby mwk ((32 * v1) + v2) 32 h) (cwV 2 hts (jm_gV mw_931 mw_933 mw_47 mw_65 mw_934) rfl rfl rfl (by decide +kernel) ⟨Nat.le_of_ble_eq_true rfl, Nat.le_of_ble_eq_true rfl⟩) ⟨jm_blind, va_recv hK hPc (ci := 10) (q0 := 0) rfl rfl, jm_pre hK hE hS hPc hDc hFc _⟩ rfl rfl hl.1 rfl (lv_room (Nat.le_of_ble_eq_true rfl)) dX10_smoothAll_80 ⟨Nat.zero_le _, Nat.zero_le _⟩) hS hP hD [0, 1, 2, 3, 4, 5, 6, 7, 8, 9] [] rfl rfl (by decide) (by decide) hFc (fun u_10 H_10 locs hw hP hD hS => ?_)
              obtain ⟨mpic_10, rfl⟩ : ∃ z, z = u_10 := ⟨_, rfl⟩
              have h := hw
              have hP : va_P D vwCl [(a_mo, .inr (10, [.int ma, .int md, .ref a_mo2, .ref a_mo3, .ref a_mo4, .ref a_mo5, .ref a_mo6, .ref a_mo7, .ref a_mo8, .int mq, .int mz, .ref a_mo11, .int msz, .int mat, .int mpl, .int mfa, .ref a_mo16, .int mth])), (a_mo2, .inl (cI, 1024, .inl mpic_10)), (a_mo3, .inl (cI, 1024, .inl mgiv)), (a_mo4, .inl (cI, 1024, .inl mkep)), (a_mo5, .inl (cI, 64, .inl mmod)), (a_mo6, .inl (cI, 1024, .inl mcoe)), (a_mo7, .inl (cI, 64, .inl mnmo)), (a_mo8, .inl (cI, 1024, .inl mnco)), (a_mo11, .inl (cI, 8000, .inl mby)), (a_mo16, .inl (cI, 16, .inl mwk))] H_10 := hP.sub [0, 1, 2, 3, 4, 5, 6, 7, 8, 9] rfl
              have hD : va_D A [(a_mo, .inr (10, [.int ma, .int md, .ref a_mo2, .ref a_mo3, .ref a_mo4, .ref a_mo5, .ref a_mo6, .ref a_mo7, .ref a_mo8, .int mq, .int mz, .ref a_mo11, .int msz, .int mat, .int mpl, .int mfa, .ref a_mo16, .int mth])), (a_mo2, .inl (cI, 1024, .inl mpic_10)), (a_mo3, .inl (cI, 1024, .inl mgiv)), (a_mo4, .inl (cI, 1024, .inl mkep)), (a_mo5, .inl (cI, 64, .inl mmod)), (a_mo6, .inl (cI, 1024, .inl mcoe)), (a_mo7, .inl (cI, 64, .inl mnmo)), (a_mo8, .inl (cI, 1024, .inl mnco)), (a_mo11, .inl (cI, 8000, .inl mby)), (a_mo16, .inl (cI, 16, .inl mwk))] := hD.sub [0, 1, 2, 3, 4, 5, 6, 7, 8, 9] (by decide) rfl
              obtain ⟨x2_11, ex2_11⟩ : ∃ y : Int32, y = v2 + 1 := ⟨_, rfl⟩
              have h := h x2_11 ex2_11
              refine lv_iinc (v := x2_11) (lv' := [(2, .int x2_11), (0, .ref a_mo), (1, .int v1)]) hx hb dX10_smoothAll_83 hl (k := 2) rfl (by rw [ex2_11]; rfl) (by decide) rfl (fun ls hl => ?_)
              refine lv_goto (tgt := 61) hx hb dX10_smoothAll_86 (by decide) ?_
              exact ih x2_11 mpic_10 H_10 _ _ h hP hD hS (lv_sub hl [1, 2, 0] rfl)
        refine hL_12 v1 _ ?_ n_12 0 mpic H _ _ h hP hD hS (lv_sub hl [1, 2, 0] rfl)
        intro v2_12 mpic_12 H locs ls h hP hD hS hl
        obtain ⟨x1_13, ex1_13⟩ : ∃ y : Int32, y = v1 + 4 := ⟨_, rfl⟩
        have h := h x1_13 ex1_13
        refine lv_iinc (v := x1_13) (lv' := [(1, .int x1_13), (0, .ref a_mo), (2, .int v2_12)]) hx hb dX10_smoothAll_89 hl (k := 1) rfl (by rw [ex1_13]; rfl) (by decide) rfl (fun ls hl => ?_)
        refine lv_goto (tgt := 49) hx hb dX10_smoothAll_92 (by decide) ?_
        exact ih x1_13 mpic_12 H _ _ h hP hD hS (lv_sub hl [1, 0] rfl)
  refine hL_14 () _ ?_ n_14 4 mpic_7 H _ _ h hP hD hS (lv_sub hl [1, 0] rfl)
  intro v1_14 mpic_14 H locs ls h hP hD hS hl
  exact hret (mpic_14) _ _ _ _ dX10_smoothAll_95 h hP hD hS
def wl_X10_write_4 (v1 : Int32) (K : Int32 → (Nat → Int32) → Prop) (X : Int32 → Int32 → (Nat → Int32) → Prop) : Nat → Int32 → Int32 → (Nat → Int32) → Prop
  | 0, _, _, _ => False
  | n + 1, v3, mat, mby => ((v3 < 0 → X v3 mat mby) ∧ (¬ v3 < 0 → jn1 (fun (mby_3 : (Nat → Int32)) => vp_in (mat / 8) 8000 ∧ vp_in (mat / 8) 8000 ∧ ∀ x3_8 : Int32, x3_8 = v3 + (-1) → wl_X10_write_4 v1 K X n x3_8 (mat + 1) (jup mby_3 (mat / 8) ((jat mby_3 (mat / 8)) + (((v1 >>> (v3 &&& 31)) &&& 1) <<< ((7 - (jrem mat 8)) &&& 31))))) (fun J_3 => (((jrem mat 8) = 0 → vp_in (mat / 8) 8000 ∧ J_3 (jup mby (mat / 8) 0)) ∧ (¬ (jrem mat 8) = 0 → J_3 mby)))))
def wp_X10_write (mat : Int32) (mby : (Nat → Int32)) (v1 v2 : Int32) (K : Int32 → (Nat → Int32) → Prop) : Prop := ∀ x3_1 : Int32, x3_1 = v2 - 1 → ∃ k : Nat, wl_X10_write_4 v1 K (fun (v3_12 : Int32) (mat_12 : Int32) (mby_12 : (Nat → Int32)) => K mat_12 mby_12) k x3_1 mat mby
abbrev jw_X10_write : List Cond := .code yX10_write cX10_write 4 none :: jmAll
abbrev rmX10_write : Room := { frames := 0, cells := 0, slots := 0, locals := 0 }
set_option maxHeartbeats 4000000 in
set_option maxRecDepth 100000 in
theorem c_X10_write (l : Launch) (D : va_G) (cI cB : ClassId) (tt : Nat × Nat × Nat) (a_mo a_mo2 a_mo3 a_mo4 a_mo5 a_mo6 a_mo7 a_mo8 a_mo11 a_mo16 : Nat) (sz : Nat) (ma : Int32) (md : Int32) (mq : Int32) (mz : Int32) (msz : Int32) (mat : Int32) (mpl : Int32) (mfa : Int32) (mth : Int32) (mpic : (Nat → Int32)) (mgiv : (Nat → Int32)) (mkep : (Nat → Int32)) (mmod : (Nat → Int32)) (mcoe : (Nat → Int32)) (mnmo : (Nat → Int32)) (mnco : (Nat → Int32)) (mby : (Nat → Int32)) (mwk : (Nat → Int32)) (v1 v2 : Int32) {K : Int32 → (Nat → Int32) → Prop} (h : wp_X10_write mat mby v1 v2 K) : Met l yX10_write jw_X10_write rmX10_write (va_Pc [.ref a_mo, .int v1, .int v2] (jm_Pre D cI cB tt (wd_mo_mo2_mo3_mo4_mo5_mo6_mo7_mo8_mo11_mo16 cI cB a_mo a_mo2 a_mo3 a_mo4 a_mo5 a_mo6 a_mo7 a_mo8 a_mo11 a_mo16 ma md mq mz msz mat mpl mfa mth mpic mgiv mkep mmod mcoe mnmo mnco mby mwk) sz)) (va_Qv (fun (u : Int32 × (Nat → Int32)) => pr2 K u) (jm_Post D cI cB (wd_mo_mo2_mo3_mo4_mo5_mo6_mo7_mo8_mo11_mo16 cI cB a_mo a_mo2 a_mo3 a_mo4 a_mo5 a_mo6 a_mo7 a_mo8 a_mo11 a_mo16 ma md mq mz msz mat mpl mfa mth mpic mgiv mkep mmod mcoe mnmo mnco mby mwk) sz (fun (u : Int32 × (Nat → Int32)) => wd_mo_mo2_mo3_mo4_mo5_mo6_mo7_mo8_mo11_mo16 cI cB a_mo a_mo2 a_mo3 a_mo4 a_mo5 a_mo6 a_mo7 a_mo8 a_mo11 a_mo16 ma md mq mz msz u.1 mpl mfa mth mpic mgiv mkep mmod mcoe mnmo mnco u.2 mwk)) (va_A (wd_mo_mo2_mo3_mo4_mo5_mo6_mo7_mo8_mo11_mo16 cI cB a_mo a_mo2 a_mo3 a_mo4 a_mo5 a_mo6 a_mo7 a_mo8 a_mo11 a_mo16 ma md mq mz msz mat mpl mfa mth mpic mgiv mkep mmod mcoe mnmo mnco mby mwk) sz)) 0 0 (va_A (wd_mo_mo2_mo3_mo4_mo5_mo6_mo7_mo8_mo11_mo16 cI cB a_mo a_mo2 a_mo3 a_mo4 a_mo5 a_mo6 a_mo7 a_mo8 a_mo11 a_mo16 ma md mq mz msz mat mpl mfa mth mpic mgiv mkep mmod mcoe mnmo mnco mby mwk) sz) := by
  refine jm_metV (by decide +kernel) rfl rfl (Nat.le_of_ble_eq_true rfl) ?_
  intro p e s m args below meth c A Q ls C0 hP hD hl hret
  obtain ⟨hx, hb, hml, hr, hown, hts, hlocks, hA, hK, hE⟩ := C0
  have hS : va_S A s.heap s.heap [] := va_S.rf
  have hl : lv_has ls 4 [(0, .ref a_mo), (1, .int v1), (2, .int v2)] := hl
  unfold wp_X10_write at h
  have hP : va_P D vwCl [(a_mo, .inr (10, [.int ma, .int md, .ref a_mo2, .ref a_mo3, .ref a_mo4, .ref a_mo5, .ref a_mo6, .ref a_mo7, .ref a_mo8, .int mq, .int mz, .ref a_mo11, .int msz, .int mat, .int mpl, .int mfa, .ref a_mo16, .int mth])), (a_mo2, .inl (cI, 1024, .inl mpic)), (a_mo3, .inl (cI, 1024, .inl mgiv)), (a_mo4, .inl (cI, 1024, .inl mkep)), (a_mo5, .inl (cI, 64, .inl mmod)), (a_mo6, .inl (cI, 1024, .inl mcoe)), (a_mo7, .inl (cI, 64, .inl mnmo)), (a_mo8, .inl (cI, 1024, .inl mnco)), (a_mo11, .inl (cI, 8000, .inl mby)), (a_mo16, .inl (cI, 16, .inl mwk))] s.heap := hP
  have hD : va_D A [(a_mo, .inr (10, [.int ma, .int md, .ref a_mo2, .ref a_mo3, .ref a_mo4, .ref a_mo5, .ref a_mo6, .ref a_mo7, .ref a_mo8, .int mq, .int mz, .ref a_mo11, .int msz, .int mat, .int mpl, .int mfa, .ref a_mo16, .int mth])), (a_mo2, .inl (cI, 1024, .inl mpic)), (a_mo3, .inl (cI, 1024, .inl mgiv)), (a_mo4, .inl (cI, 1024, .inl mkep)), (a_mo5, .inl (cI, 64, .inl mmod)), (a_mo6, .inl (cI, 1024, .inl mcoe)), (a_mo7, .inl (cI, 64, .inl mnmo)), (a_mo8, .inl (cI, 1024, .inl mnco)), (a_mo11, .inl (cI, 8000, .inl mby)), (a_mo16, .inl (cI, 16, .inl mwk))] := hD
  have iX10 : ∀ w ∈ wsX100, w ∈ jw_X10_write := fun w h => List.mem_cons_of_mem _ (jm_iX10 w h)
  have lk138 := hts (.fieldLink RX10 138 "IntraMillModel" "at" "I") (List.mem_cons_of_mem _ mw_747)
  have lk38 := hts (.fieldLink RX10 38 "IntraMillModel" "bytes" "[I") (List.mem_cons_of_mem _ mw_745)
  refine lv_iload_n hx hb dX10_write_0 rfl (lv_at hl 2 rfl) ?_
  refine lv_iconst (v := 1) hx hb dX10_write_1 (by decide) ?_
  refine lv_isub hx hb dX10_write_2 ?_
  refine lv_topi (fun x3_1 ex3_1 => ?_)
  have h := h x3_1 ex3_1
  refine lv_istore_n (lv' := [(3, .int x3_1), (0, .ref a_mo), (1, .int v1), (2, .int v2)]) hx hb dX10_write_3 rfl hl (by decide) rfl (fun ls hl => ?_)
  obtain ⟨n_12, h⟩ := h
  have hL_12 : ∀ (v1 : Int32) (v2 : Int32) (X : Int32 → Int32 → (Nat → Int32) → Prop), (∀ (v3 : Int32) (mat : Int32) (mby : (Nat → Int32)), ∀ (H : Heap) (locs : List Loc) (ls : Array Slot), X v3 mat mby → va_P D vwCl [(a_mo, .inr (10, [.int ma, .int md, .ref a_mo2, .ref a_mo3, .ref a_mo4, .ref a_mo5, .ref a_mo6, .ref a_mo7, .ref a_mo8, .int mq, .int mz, .ref a_mo11, .int msz, .int mat, .int mpl, .int mfa, .ref a_mo16, .int mth])), (a_mo2, .inl (cI, 1024, .inl mpic)), (a_mo3, .inl (cI, 1024, .inl mgiv)), (a_mo4, .inl (cI, 1024, .inl mkep)), (a_mo5, .inl (cI, 64, .inl mmod)), (a_mo6, .inl (cI, 1024, .inl mcoe)), (a_mo7, .inl (cI, 64, .inl mnmo)), (a_mo8, .inl (cI, 1024, .inl mnco)), (a_mo11, .inl (cI, 8000, .inl mby)), (a_mo16, .inl (cI, 16, .inl mwk))] H → va_D A [(a_mo, .inr (10, [.int ma, .int md, .ref a_mo2, .ref a_mo3, .ref a_mo4, .ref a_mo5, .ref a_mo6, .ref a_mo7, .ref a_mo8, .int mq, .int mz, .ref a_mo11, .int msz, .int mat, .int mpl, .int mfa, .ref a_mo16, .int mth])), (a_mo2, .inl (cI, 1024, .inl mpic)), (a_mo3, .inl (cI, 1024, .inl mgiv)), (a_mo4, .inl (cI, 1024, .inl mkep)), (a_mo5, .inl (cI, 64, .inl mmod)), (a_mo6, .inl (cI, 1024, .inl mcoe)), (a_mo7, .inl (cI, 64, .inl mnmo)), (a_mo8, .inl (cI, 1024, .inl mnco)), (a_mo11, .inl (cI, 8000, .inl mby)), (a_mo16, .inl (cI, 16, .inl mwk))] → va_S A s.heap H locs → lv_has ls 4 [(0, .ref a_mo), (1, .int v1), (2, .int v2), (3, .int v3)] → W p l e rmX10_write s m args below meth c H locs 0 0 Q (F0 m 78 ls [])) → ∀ (n : Nat) (v3 : Int32) (mat : Int32) (mby : (Nat → Int32)), ∀ (H : Heap) (locs : List Loc) (ls : Array Slot), wl_X10_write_4 v1 K X n v3 mat mby → va_P D vwCl [(a_mo, .inr (10, [.int ma, .int md, .ref a_mo2, .ref a_mo3, .ref a_mo4, .ref a_mo5, .ref a_mo6, .ref a_mo7, .ref a_mo8, .int mq, .int mz, .ref a_mo11, .int msz, .int mat, .int mpl, .int mfa, .ref a_mo16, .int mth])), (a_mo2, .inl (cI, 1024, .inl mpic)), (a_mo3, .inl (cI, 1024, .inl mgiv)), (a_mo4, .inl (cI, 1024, .inl mkep)), (a_mo5, .inl (cI, 64, .inl mmod)), (a_mo6, .inl (cI, 1024, .inl mcoe)), (a_mo7, .inl (cI, 64, .inl mnmo)), (a_mo8, .inl (cI, 1024, .inl mnco)), (a_mo11, .inl (cI, 8000, .inl mby)), (a_mo16, .inl (cI, 16, .inl mwk))] H → va_D A [(a_mo, .inr (10, [.int ma, .int md, .ref a_mo2, .ref a_mo3, .ref a_mo4, .ref a_mo5, .ref a_mo6, .ref a_mo7, .ref a_mo8, .int mq, .int mz, .ref a_mo11, .int msz, .int mat, .int mpl, .int mfa, .ref a_mo16, .int mth])), (a_mo2, .inl (cI, 1024, .inl mpic)), (a_mo3, .inl (cI, 1024, .inl mgiv)), (a_mo4, .inl (cI, 1024, .inl mkep)), (a_mo5, .inl (cI, 64, .inl mmod)), (a_mo6, .inl (cI, 1024, .inl mcoe)), (a_mo7, .inl (cI, 64, .inl mnmo)), (a_mo8, .inl (cI, 1024, .inl mnco)), (a_mo11, .inl (cI, 8000, .inl mby)), (a_mo16, .inl (cI, 16, .inl mwk))] → va_S A s.heap H locs → lv_has ls 4 [(0, .ref a_mo), (1, .int v1), (2, .int v2), (3, .int v3)] → W p l e rmX10_write s m args below meth c H locs 0 0 Q (F0 m 4 ls []) := by
    intro v1 v2 X hX n
    induction n with
    | zero => intro v3 mat mby H locs ls h; rw [wl_X10_write_4] at h; exact h.elim
    | succ n ih =>
      intro v3 mat mby H locs ls h hP hD hS hl
      rw [wl_X10_write_4] at h
      refine lv_iload_n hx hb dX10_write_4 rfl (lv_at hl 3 rfl) ?_
      refine lv_if_lt (tgt := 78) hx hb dX10_write_5 (by decide) (fun c_2 => ?_) (fun c_2 => ?_)
      · have h := h.1 c_2
        exact hX v3 mat mby H _ _ h hP hD hS (lv_sub hl [0, 1, 2, 3] rfl)
      · have h := h.2 c_2
        refine lv_aload_n hx hb dX10_write_8 rfl (lv_at hl 0 rfl) ?_
        refine va_get (D := D) (ci := 10) (v := .int mat) (C := RX10) (T := TX10) (N := 18) hx hb hts iX10 hown hK hP 0 rfl rfl 13 (by decide) lk138 (fun _ h9 => h9) rfl dX10_write_9 ?_
        refine lv_bipush (v := 8) hx hb dX10_write_12 (by decide) ?_
        refine lv_irem hx hb dX10_write_14 (by decide) ?_
        obtain ⟨J_3, hj_3, h⟩ := jn1_out h
        have hJ_3 : ∀ (mby_3 : (Nat → Int32)), ∀ (H : Heap) (locs : List Loc) (ls : Array Slot), J_3 mby_3 → va_P D vwCl [(a_mo, .inr (10, [.int ma, .int md, .ref a_mo2, .ref a_mo3, .ref a_mo4, .ref a_mo5, .ref a_mo6, .ref a_mo7, .ref a_mo8, .int mq, .int mz, .ref a_mo11, .int msz, .int mat, .int mpl, .int mfa, .ref a_mo16, .int mth])), (a_mo2, .inl (cI, 1024, .inl mpic)), (a_mo3, .inl (cI, 1024, .inl mgiv)), (a_mo4, .inl (cI, 1024, .inl mkep)), (a_mo5, .inl (cI, 64, .inl mmod)), (a_mo6, .inl (cI, 1024, .inl mcoe)), (a_mo7, .inl (cI, 64, .inl mnmo)), (a_mo8, .inl (cI, 1024, .inl mnco)), (a_mo11, .inl (cI, 8000, .inl mby_3)), (a_mo16, .inl (cI, 16, .inl mwk))] H → va_D A [(a_mo, .inr (10, [.int ma, .int md, .ref a_mo2, .ref a_mo3, .ref a_mo4, .ref a_mo5, .ref a_mo6, .ref a_mo7, .ref a_mo8, .int mq, .int mz, .ref a_mo11, .int msz, .int mat, .int mpl, .int mfa, .ref a_mo16, .int mth])), (a_mo2, .inl (cI, 1024, .inl mpic)), (a_mo3, .inl (cI, 1024, .inl mgiv)), (a_mo4, .inl (cI, 1024, .inl mkep)), (a_mo5, .inl (cI, 64, .inl mmod)), (a_mo6, .inl (cI, 1024, .inl mcoe)), (a_mo7, .inl (cI, 64, .inl mnmo)), (a_mo8, .inl (cI, 1024, .inl mnco)), (a_mo11, .inl (cI, 8000, .inl mby_3)), (a_mo16, .inl (cI, 16, .inl mwk))] → va_S A s.heap H locs → lv_has ls 4 [(0, .ref a_mo), (1, .int v1), (2, .int v2), (3, .int v3)] → W p l e rmX10_write s m args below meth c H locs 0 0 Q (F0 m 31 ls []) := by
          intro mby_3 H locs ls h hP hD hS hl
          have h := hj_3 mby_3 h
          refine lv_aload_n hx hb dX10_write_31 rfl (lv_at hl 0 rfl) ?_
          refine va_get (D := D) (ci := 10) (v := .ref a_mo11) (C := RX10) (T := TX10) (N := 18) hx hb hts iX10 hown hK hP 0 rfl rfl 11 (by decide) lk38 (fun _ h9 => h9) rfl dX10_write_32 ?_
          refine lv_aload_n hx hb dX10_write_35 rfl (lv_at hl 0 rfl) ?_
          refine va_get (D := D) (ci := 10) (v := .int mat) (C := RX10) (T := TX10) (N := 18) hx hb hts iX10 hown hK hP 0 rfl rfl 13 (by decide) lk138 (fun _ h9 => h9) rfl dX10_write_36 ?_
          refine lv_bipush (v := 8) hx hb dX10_write_39 (by decide) ?_
          refine lv_idiv hx hb dX10_write_41 (by decide) ?_
          refine lv_dup2_11 hx hb dX10_write_42 rfl rfl ?_
          obtain ⟨hi_4, h⟩ := h
          refine va_iald hx hb hK hP 8 0 rfl rfl hi_4 dX10_write_43 ?_
          refine lv_iload_n hx hb dX10_write_44 rfl (lv_at hl 1 rfl) ?_
          refine lv_iload_n hx hb dX10_write_45 rfl (lv_at hl 3 rfl) ?_
          refine lv_ishr hx hb dX10_write_46 ?_
          refine lv_iconst (v := 1) hx hb dX10_write_47 (by decide) ?_
          refine lv_iand hx hb dX10_write_48 ?_
          refine lv_bipush (v := 7) hx hb dX10_write_49 (by decide) ?_
          refine lv_aload_n hx hb dX10_write_51 rfl (lv_at hl 0 rfl) ?_
          refine va_get (D := D) (ci := 10) (v := .int mat) (C := RX10) (T := TX10) (N := 18) hx hb hts iX10 hown hK hP 0 rfl rfl 13 (by decide) lk138 (fun _ h9 => h9) rfl dX10_write_52 ?_
          refine lv_bipush (v := 8) hx hb dX10_write_55 (by decide) ?_
          refine lv_irem hx hb dX10_write_57 (by decide) ?_
          refine lv_isub hx hb dX10_write_58 ?_
          refine lv_ishl hx hb dX10_write_59 ?_
          refine lv_iadd hx hb dX10_write_60 ?_
          obtain ⟨hi_5, h⟩ := h
          refine va_iast hx hb hK hP hD hS 8 0 rfl rfl hi_5 dX10_write_61 (fun H_6 locs hP hD hS => ?_)
          have hP : va_P D vwCl [(a_mo, .inr (10, [.int ma, .int md, .ref a_mo2, .ref a_mo3, .ref a_mo4, .ref a_mo5, .ref a_mo6, .ref a_mo7, .ref a_mo8, .int mq, .int mz, .ref a_mo11, .int msz, .int mat, .int mpl, .int mfa, .ref a_mo16, .int mth])), (a_mo2, .inl (cI, 1024, .inl mpic)), (a_mo3, .inl (cI, 1024, .inl mgiv)), (a_mo4, .inl (cI, 1024, .inl mkep)), (a_mo5, .inl (cI, 64, .inl mmod)), (a_mo6, .inl (cI, 1024, .inl mcoe)), (a_mo7, .inl (cI, 64, .inl mnmo)), (a_mo8, .inl (cI, 1024, .inl mnco)), (a_mo11, .inl (cI, 8000, .inl (jup mby_3 (mat / 8) ((jat mby_3 (mat / 8)) + (((v1 >>> (v3 &&& 31)) &&& 1) <<< ((7 - (jrem mat 8)) &&& 31)))))), (a_mo16, .inl (cI, 16, .inl mwk))] H_6 := hP
          have hD : va_D A [(a_mo, .inr (10, [.int ma, .int md, .ref a_mo2, .ref a_mo3, .ref a_mo4, .ref a_mo5, .ref a_mo6, .ref a_mo7, .ref a_mo8, .int mq, .int mz, .ref a_mo11, .int msz, .int mat, .int mpl, .int mfa, .ref a_mo16, .int mth])), (a_mo2, .inl (cI, 1024, .inl mpic)), (a_mo3, .inl (cI, 1024, .inl mgiv)), (a_mo4, .inl (cI, 1024, .inl mkep)), (a_mo5, .inl (cI, 64, .inl mmod)), (a_mo6, .inl (cI, 1024, .inl mcoe)), (a_mo7, .inl (cI, 64, .inl mnmo)), (a_mo8, .inl (cI, 1024, .inl mnco)), (a_mo11, .inl (cI, 8000, .inl (jup mby_3 (mat / 8) ((jat mby_3 (mat / 8)) + (((v1 >>> (v3 &&& 31)) &&& 1) <<< ((7 - (jrem mat 8)) &&& 31)))))), (a_mo16, .inl (cI, 16, .inl mwk))] := hD
          refine lv_aload_n hx hb dX10_write_62 rfl (lv_at hl 0 rfl) ?_
          refine lv_dup hx hb dX10_write_63 rfl ?_
          refine va_get (D := D) (ci := 10) (v := .int mat) (C := RX10) (T := TX10) (N := 18) hx hb hts iX10 hown hK hP 0 rfl rfl 13 (by decide) lk138 (fun _ h9 => h9) rfl dX10_write_64 ?_
          refine lv_iconst (v := 1) hx hb dX10_write_67 (by decide) ?_
          refine lv_iadd hx hb dX10_write_68 ?_
          refine va_put (D := D) (ci := 10) (v := .int (mat + 1)) (ty := .int) (C := RX10) (T := TX10) (N := 18) hx hb hts iX10 tyX10 tyX10_ok nmX10 hown hK hP hD hS 0 rfl rfl 13 (by decide) lk138 (fun _ h9 => h9) rfl (by decide +kernel) rfl rfl (Nat.le_of_ble_eq_true rfl) dX10_write_69 (fun H_7 locs hP hD hS => ?_)
          have hP : va_P D vwCl [(a_mo, .inr (10, [.int ma, .int md, .ref a_mo2, .ref a_mo3, .ref a_mo4, .ref a_mo5, .ref a_mo6, .ref a_mo7, .ref a_mo8, .int mq, .int mz, .ref a_mo11, .int msz, .int (mat + 1), .int mpl, .int mfa, .ref a_mo16, .int mth])), (a_mo2, .inl (cI, 1024, .inl mpic)), (a_mo3, .inl (cI, 1024, .inl mgiv)), (a_mo4, .inl (cI, 1024, .inl mkep)), (a_mo5, .inl (cI, 64, .inl mmod)), (a_mo6, .inl (cI, 1024, .inl mcoe)), (a_mo7, .inl (cI, 64, .inl mnmo)), (a_mo8, .inl (cI, 1024, .inl mnco)), (a_mo11, .inl (cI, 8000, .inl (jup mby_3 (mat / 8) ((jat mby_3 (mat / 8)) + (((v1 >>> (v3 &&& 31)) &&& 1) <<< ((7 - (jrem mat 8)) &&& 31)))))), (a_mo16, .inl (cI, 16, .inl mwk))] H_7 := hP
          have hD : va_D A [(a_mo, .inr (10, [.int ma, .int md, .ref a_mo2, .ref a_mo3, .ref a_mo4, .ref a_mo5, .ref a_mo6, .ref a_mo7, .ref a_mo8, .int mq, .int mz, .ref a_mo11, .int msz, .int (mat + 1), .int mpl, .int mfa, .ref a_mo16, .int mth])), (a_mo2, .inl (cI, 1024, .inl mpic)), (a_mo3, .inl (cI, 1024, .inl mgiv)), (a_mo4, .inl (cI, 1024, .inl mkep)), (a_mo5, .inl (cI, 64, .inl mmod)), (a_mo6, .inl (cI, 1024, .inl mcoe)), (a_mo7, .inl (cI, 64, .inl mnmo)), (a_mo8, .inl (cI, 1024, .inl mnco)), (a_mo11, .inl (cI, 8000, .inl (jup mby_3 (mat / 8) ((jat mby_3 (mat / 8)) + (((v1 >>> (v3 &&& 31)) &&& 1) <<< ((7 - (jrem mat 8)) &&& 31)))))), (a_mo16, .inl (cI, 16, .inl mwk))] := hD
          obtain ⟨x3_8, ex3_8⟩ : ∃ y : Int32, y = v3 + (-1) := ⟨_, rfl⟩
          have h := h x3_8 ex3_8
          refine lv_iinc (v := x3_8) (lv' := [(3, .int x3_8), (0, .ref a_mo), (1, .int v1), (2, .int v2)]) hx hb dX10_write_72 hl (k := 3) rfl (by rw [ex3_8]; rfl) (by decide) rfl (fun ls hl => ?_)
          refine lv_goto (tgt := 4) hx hb dX10_write_75 (by decide) ?_
          exact ih x3_8 (mat + 1) (jup mby_3 (mat / 8) ((jat mby_3 (mat / 8)) + (((v1 >>> (v3 &&& 31)) &&& 1) <<< ((7 - (jrem mat 8)) &&& 31)))) H_7 _ _ h hP hD hS (lv_sub hl [1, 2, 3, 0] rfl)
        refine lv_if_ne (tgt := 31) hx hb dX10_write_15 (by decide) (fun c_9 => ?_) (fun c_9 => ?_)
        · have h := h.2 c_9
          exact hJ_3 mby H _ _ h hP hD hS (lv_sub hl [0, 1, 2, 3] rfl)
        · have h := h.1 c_9
          refine lv_aload_n hx hb dX10_write_18 rfl (lv_at hl 0 rfl) ?_
          refine va_get (D := D) (ci := 10) (v := .ref a_mo11) (C := RX10) (T := TX10) (N := 18) hx hb hts iX10 hown hK hP 0 rfl rfl 11 (by decide) lk38 (fun _ h9 => h9) rfl dX10_write_19 ?_
          refine lv_aload_n hx hb dX10_write_22 rfl (lv_at hl 0 rfl) ?_
          refine va_get (D := D) (ci := 10) (v := .int mat) (C := RX10) (T := TX10) (N := 18) hx hb hts iX10 hown hK hP 0 rfl rfl 13 (by decide) lk138 (fun _ h9 => h9) rfl dX10_write_23 ?_
          refine lv_bipush (v := 8) hx hb dX10_write_26 (by decide) ?_
          refine lv_idiv hx hb dX10_write_28 (by decide) ?_
          refine lv_iconst (v := 0) hx hb dX10_write_29 (by decide) ?_
          obtain ⟨hi_10, h⟩ := h
          refine va_iast hx hb hK hP hD hS 8 0 rfl rfl hi_10 dX10_write_30 (fun H_11 locs hP hD hS => ?_)
          have hP : va_P D vwCl [(a_mo, .inr (10, [.int ma, .int md, .ref a_mo2, .ref a_mo3, .ref a_mo4, .ref a_mo5, .ref a_mo6, .ref a_mo7, .ref a_mo8, .int mq, .int mz, .ref a_mo11, .int msz, .int mat, .int mpl, .int mfa, .ref a_mo16, .int mth])), (a_mo2, .inl (cI, 1024, .inl mpic)), (a_mo3, .inl (cI, 1024, .inl mgiv)), (a_mo4, .inl (cI, 1024, .inl mkep)), (a_mo5, .inl (cI, 64, .inl mmod)), (a_mo6, .inl (cI, 1024, .inl mcoe)), (a_mo7, .inl (cI, 64, .inl mnmo)), (a_mo8, .inl (cI, 1024, .inl mnco)), (a_mo11, .inl (cI, 8000, .inl (jup mby (mat / 8) 0))), (a_mo16, .inl (cI, 16, .inl mwk))] H_11 := hP
          have hD : va_D A [(a_mo, .inr (10, [.int ma, .int md, .ref a_mo2, .ref a_mo3, .ref a_mo4, .ref a_mo5, .ref a_mo6, .ref a_mo7, .ref a_mo8, .int mq, .int mz, .ref a_mo11, .int msz, .int mat, .int mpl, .int mfa, .ref a_mo16, .int mth])), (a_mo2, .inl (cI, 1024, .inl mpic)), (a_mo3, .inl (cI, 1024, .inl mgiv)), (a_mo4, .inl (cI, 1024, .inl mkep)), (a_mo5, .inl (cI, 64, .inl mmod)), (a_mo6, .inl (cI, 1024, .inl mcoe)), (a_mo7, .inl (cI, 64, .inl mnmo)), (a_mo8, .inl (cI, 1024, .inl mnco)), (a_mo11, .inl (cI, 8000, .inl (jup mby (mat / 8) 0))), (a_mo16, .inl (cI, 16, .inl mwk))] := hD
          exact hJ_3 (jup mby (mat / 8) 0) H_11 _ _ h hP hD hS (lv_sub hl [0, 1, 2, 3] rfl)
  refine hL_12 v1 v2 _ ?_ n_12 x3_1 mat mby s.heap _ _ h hP hD hS (lv_sub hl [1, 2, 3, 0] rfl)
  intro v3_12 mat_12 mby_12 H locs ls h hP hD hS hl
  exact hret (mat_12, mby_12) _ _ _ _ dX10_write_78 h hP hD hS
def wl_X10_writeU_2 (v1 : Int32) (K : Int32 → (Nat → Int32) → Prop) (X : Int32 → Prop) : Nat → Int32 → Prop
  | 0, _ => False
  | n + 1, v2 => ((v1 < ((2 <<< (v2 &&& 31)) - 1) → X v2) ∧ (¬ v1 < ((2 <<< (v2 &&& 31)) - 1) → ∀ x2_2 : Int32, x2_2 = v2 + 1 → wl_X10_writeU_2 v1 K X n x2_2))
def wp_X10_writeU (mat : Int32) (mby : (Nat → Int32)) (v1 : Int32) (K : Int32 → (Nat → Int32) → Prop) : Prop := ∃ k : Nat, wl_X10_writeU_2 v1 K (fun (v2_3 : Int32) => wp_X10_write mat mby 0 v2_3 (fun (mat_4 : Int32) (mby_4 : (Nat → Int32)) => wp_X10_write mat_4 mby_4 1 1 (fun (mat_5 : Int32) (mby_5 : (Nat → Int32)) => wp_X10_write mat_5 mby_5 ((v1 - (1 <<< (v2_3 &&& 31))) + 1) v2_3 (fun (mat_6 : Int32) (mby_6 : (Nat → Int32)) => K mat_6 mby_6)))) k 0
abbrev jw_X10_writeU : List Cond := .code yX10_writeU cX10_writeU 3 none :: jmAll
abbrev rmX10_writeU : Room := { frames := 1, cells := 0, slots := 0, locals := 23 }
set_option maxHeartbeats 4000000 in
set_option maxRecDepth 100000 in
theorem c_X10_writeU (l : Launch) (D : va_G) (cI cB : ClassId) (tt : Nat × Nat × Nat) (a_mo a_mo2 a_mo3 a_mo4 a_mo5 a_mo6 a_mo7 a_mo8 a_mo11 a_mo16 : Nat) (sz : Nat) (ma : Int32) (md : Int32) (mq : Int32) (mz : Int32) (msz : Int32) (mat : Int32) (mpl : Int32) (mfa : Int32) (mth : Int32) (mpic : (Nat → Int32)) (mgiv : (Nat → Int32)) (mkep : (Nat → Int32)) (mmod : (Nat → Int32)) (mcoe : (Nat → Int32)) (mnmo : (Nat → Int32)) (mnco : (Nat → Int32)) (mby : (Nat → Int32)) (mwk : (Nat → Int32)) (v1 : Int32) {K : Int32 → (Nat → Int32) → Prop} (h : wp_X10_writeU mat mby v1 K) : Met l yX10_writeU jw_X10_writeU rmX10_writeU (va_Pc [.ref a_mo, .int v1] (jm_Pre D cI cB tt (wd_mo_mo2_mo3_mo4_mo5_mo6_mo7_mo8_mo11_mo16 cI cB a_mo a_mo2 a_mo3 a_mo4 a_mo5 a_mo6 a_mo7 a_mo8 a_mo11 a_mo16 ma md mq mz msz mat mpl mfa mth mpic mgiv mkep mmod mcoe mnmo mnco mby mwk) sz)) (va_Qv (fun (u : Int32 × (Nat → Int32)) => pr2 K u) (jm_Post D cI cB (wd_mo_mo2_mo3_mo4_mo5_mo6_mo7_mo8_mo11_mo16 cI cB a_mo a_mo2 a_mo3 a_mo4 a_mo5 a_mo6 a_mo7 a_mo8 a_mo11 a_mo16 ma md mq mz msz mat mpl mfa mth mpic mgiv mkep mmod mcoe mnmo mnco mby mwk) sz (fun (u : Int32 × (Nat → Int32)) => wd_mo_mo2_mo3_mo4_mo5_mo6_mo7_mo8_mo11_mo16 cI cB a_mo a_mo2 a_mo3 a_mo4 a_mo5 a_mo6 a_mo7 a_mo8 a_mo11 a_mo16 ma md mq mz msz u.1 mpl mfa mth mpic mgiv mkep mmod mcoe mnmo mnco u.2 mwk)) (va_A (wd_mo_mo2_mo3_mo4_mo5_mo6_mo7_mo8_mo11_mo16 cI cB a_mo a_mo2 a_mo3 a_mo4 a_mo5 a_mo6 a_mo7 a_mo8 a_mo11 a_mo16 ma md mq mz msz mat mpl mfa mth mpic mgiv mkep mmod mcoe mnmo mnco mby mwk) sz)) 0 0 (va_A (wd_mo_mo2_mo3_mo4_mo5_mo6_mo7_mo8_mo11_mo16 cI cB a_mo a_mo2 a_mo3 a_mo4 a_mo5 a_mo6 a_mo7 a_mo8 a_mo11 a_mo16 ma md mq mz msz mat mpl mfa mth mpic mgiv mkep mmod mcoe mnmo mnco mby mwk) sz) := by
  refine jm_metV (by decide +kernel) rfl rfl (Nat.le_of_ble_eq_true rfl) ?_
  intro p e s m args below meth c A Q ls C0 hP hD hl hret
  obtain ⟨hx, hb, hml, hr, hown, hts, hlocks, hA, hK, hE⟩ := C0
  have hS : va_S A s.heap s.heap [] := va_S.rf
  have hl : lv_has ls 3 [(0, .ref a_mo), (1, .int v1)] := hl
  unfold wp_X10_writeU at h
  have hP : va_P D vwCl [(a_mo, .inr (10, [.int ma, .int md, .ref a_mo2, .ref a_mo3, .ref a_mo4, .ref a_mo5, .ref a_mo6, .ref a_mo7, .ref a_mo8, .int mq, .int mz, .ref a_mo11, .int msz, .int mat, .int mpl, .int mfa, .ref a_mo16, .int mth])), (a_mo2, .inl (cI, 1024, .inl mpic)), (a_mo3, .inl (cI, 1024, .inl mgiv)), (a_mo4, .inl (cI, 1024, .inl mkep)), (a_mo5, .inl (cI, 64, .inl mmod)), (a_mo6, .inl (cI, 1024, .inl mcoe)), (a_mo7, .inl (cI, 64, .inl mnmo)), (a_mo8, .inl (cI, 1024, .inl mnco)), (a_mo11, .inl (cI, 8000, .inl mby)), (a_mo16, .inl (cI, 16, .inl mwk))] s.heap := hP
  have hD : va_D A [(a_mo, .inr (10, [.int ma, .int md, .ref a_mo2, .ref a_mo3, .ref a_mo4, .ref a_mo5, .ref a_mo6, .ref a_mo7, .ref a_mo8, .int mq, .int mz, .ref a_mo11, .int msz, .int mat, .int mpl, .int mfa, .ref a_mo16, .int mth])), (a_mo2, .inl (cI, 1024, .inl mpic)), (a_mo3, .inl (cI, 1024, .inl mgiv)), (a_mo4, .inl (cI, 1024, .inl mkep)), (a_mo5, .inl (cI, 64, .inl mmod)), (a_mo6, .inl (cI, 1024, .inl mcoe)), (a_mo7, .inl (cI, 64, .inl mnmo)), (a_mo8, .inl (cI, 1024, .inl mnco)), (a_mo11, .inl (cI, 8000, .inl mby)), (a_mo16, .inl (cI, 16, .inl mwk))] := hD
  refine lv_iconst (v := 0) hx hb dX10_writeU_0 (by decide) ?_
  refine lv_istore_n (lv' := [(2, .int 0), (0, .ref a_mo), (1, .int v1)]) hx hb dX10_writeU_1 rfl hl (by decide) rfl (fun ls hl => ?_)
  obtain ⟨n_3, h⟩ := h
  have hL_3 : ∀ (v1 : Int32) (mat : Int32) (mby : (Nat → Int32)) (X : Int32 → Prop), (∀ (v2 : Int32), ∀ (H : Heap) (locs : List Loc) (ls : Array Slot), X v2 → va_P D vwCl [(a_mo, .inr (10, [.int ma, .int md, .ref a_mo2, .ref a_mo3, .ref a_mo4, .ref a_mo5, .ref a_mo6, .ref a_mo7, .ref a_mo8, .int mq, .int mz, .ref a_mo11, .int msz, .int mat, .int mpl, .int mfa, .ref a_mo16, .int mth])), (a_mo2, .inl (cI, 1024, .inl mpic)), (a_mo3, .inl (cI, 1024, .inl mgiv)), (a_mo4, .inl (cI, 1024, .inl mkep)), (a_mo5, .inl (cI, 64, .inl mmod)), (a_mo6, .inl (cI, 1024, .inl mcoe)), (a_mo7, .inl (cI, 64, .inl mnmo)), (a_mo8, .inl (cI, 1024, .inl mnco)), (a_mo11, .inl (cI, 8000, .inl mby)), (a_mo16, .inl (cI, 16, .inl mwk))] H → va_D A [(a_mo, .inr (10, [.int ma, .int md, .ref a_mo2, .ref a_mo3, .ref a_mo4, .ref a_mo5, .ref a_mo6, .ref a_mo7, .ref a_mo8, .int mq, .int mz, .ref a_mo11, .int msz, .int mat, .int mpl, .int mfa, .ref a_mo16, .int mth])), (a_mo2, .inl (cI, 1024, .inl mpic)), (a_mo3, .inl (cI, 1024, .inl mgiv)), (a_mo4, .inl (cI, 1024, .inl mkep)), (a_mo5, .inl (cI, 64, .inl mmod)), (a_mo6, .inl (cI, 1024, .inl mcoe)), (a_mo7, .inl (cI, 64, .inl mnmo)), (a_mo8, .inl (cI, 1024, .inl mnco)), (a_mo11, .inl (cI, 8000, .inl mby)), (a_mo16, .inl (cI, 16, .inl mwk))] → va_S A s.heap H locs → lv_has ls 3 [(0, .ref a_mo), (1, .int v1), (2, .int v2)] → W p l e rmX10_writeU s m args below meth c H locs 0 0 Q (F0 m 17 ls [])) → ∀ (n : Nat) (v2 : Int32), ∀ (H : Heap) (locs : List Loc) (ls : Array Slot), wl_X10_writeU_2 v1 K X n v2 → va_P D vwCl [(a_mo, .inr (10, [.int ma, .int md, .ref a_mo2, .ref a_mo3, .ref a_mo4, .ref a_mo5, .ref a_mo6, .ref a_mo7, .ref a_mo8, .int mq, .int mz, .ref a_mo11, .int msz, .int mat, .int mpl, .int mfa, .ref a_mo16, .int mth])), (a_mo2, .inl (cI, 1024, .inl mpic)), (a_mo3, .inl (cI, 1024, .inl mgiv)), (a_mo4, .inl (cI, 1024, .inl mkep)), (a_mo5, .inl (cI, 64, .inl mmod)), (a_mo6, .inl (cI, 1024, .inl mcoe)), (a_mo7, .inl (cI, 64, .inl mnmo)), (a_mo8, .inl (cI, 1024, .inl mnco)), (a_mo11, .inl (cI, 8000, .inl mby)), (a_mo16, .inl (cI, 16, .inl mwk))] H → va_D A [(a_mo, .inr (10, [.int ma, .int md, .ref a_mo2, .ref a_mo3, .ref a_mo4, .ref a_mo5, .ref a_mo6, .ref a_mo7, .ref a_mo8, .int mq, .int mz, .ref a_mo11, .int msz, .int mat, .int mpl, .int mfa, .ref a_mo16, .int mth])), (a_mo2, .inl (cI, 1024, .inl mpic)), (a_mo3, .inl (cI, 1024, .inl mgiv)), (a_mo4, .inl (cI, 1024, .inl mkep)), (a_mo5, .inl (cI, 64, .inl mmod)), (a_mo6, .inl (cI, 1024, .inl mcoe)), (a_mo7, .inl (cI, 64, .inl mnmo)), (a_mo8, .inl (cI, 1024, .inl mnco)), (a_mo11, .inl (cI, 8000, .inl mby)), (a_mo16, .inl (cI, 16, .inl mwk))] → va_S A s.heap H locs → lv_has ls 3 [(0, .ref a_mo), (1, .int v1), (2, .int v2)] → W p l e rmX10_writeU s m args below meth c H locs 0 0 Q (F0 m 2 ls []) := by
    intro v1 mat mby X hX n
    induction n with
    | zero => intro v2 H locs ls h; rw [wl_X10_writeU_2] at h; exact h.elim
    | succ n ih =>
      intro v2 H locs ls h hP hD hS hl
      rw [wl_X10_writeU_2] at h
      refine lv_iconst (v := 2) hx hb dX10_writeU_2 (by decide) ?_
      refine lv_iload_n hx hb dX10_writeU_3 rfl (lv_at hl 2 rfl) ?_
      refine lv_ishl hx hb dX10_writeU_4 ?_
      refine lv_iconst (v := 1) hx hb dX10_writeU_5 (by decide) ?_
      refine lv_isub hx hb dX10_writeU_6 ?_
      refine lv_iload_n hx hb dX10_writeU_7 rfl (lv_at hl 1 rfl) ?_
      refine lv_icmp_gt (tgt := 17) hx hb dX10_writeU_8 (by decide) (fun c_1 => ?_) (fun c_1 => ?_)
      · have h := h.1 c_1
        exact hX v2 H _ _ h hP hD hS (lv_sub hl [0, 1, 2] rfl)
      · have h := h.2 c_1
        obtain ⟨x2_2, ex2_2⟩ : ∃ y : Int32, y = v2 + 1 := ⟨_, rfl⟩
        have h := h x2_2 ex2_2
        refine lv_iinc (v := x2_2) (lv' := [(2, .int x2_2), (0, .ref a_mo), (1, .int v1)]) hx hb dX10_writeU_11 hl (k := 2) rfl (by rw [ex2_2]; rfl) (by decide) rfl (fun ls hl => ?_)
        refine lv_goto (tgt := 2) hx hb dX10_writeU_14 (by decide) ?_
        exact ih x2_2 H _ _ h hP hD hS (lv_sub hl [1, 2, 0] rfl)
  refine hL_3 v1 mat mby _ ?_ n_3 0 s.heap _ _ h hP hD hS (lv_sub hl [1, 2, 0] rfl)
  intro v2_3 H locs ls h hP hD hS hl
  refine lv_aload_n hx hb dX10_writeU_17 rfl (lv_at hl 0 rfl) ?_
  refine lv_iconst (v := 0) hx hb dX10_writeU_18 (by decide) ?_
  refine lv_iload_n hx hb dX10_writeU_19 rfl (lv_at hl 2 rfl) ?_
  have hPc := hP.sub (ws' := [(a_mo, .inr (10, [.int ma, .int md, .ref a_mo2, .ref a_mo3, .ref a_mo4, .ref a_mo5, .ref a_mo6, .ref a_mo7, .ref a_mo8, .int mq, .int mz, .ref a_mo11, .int msz, .int mat, .int mpl, .int mfa, .ref a_mo16, .int mth])), (a_mo2, .inl (cI, 1024, .inl mpic)), (a_mo3, .inl (cI, 1024, .inl mgiv)), (a_mo4, .inl (cI, 1024, .inl mkep)), (a_mo5, .inl (cI, 64, .inl mmod)), (a_mo6, .inl (cI, 1024, .inl mcoe)), (a_mo7, .inl (cI, 64, .inl mnmo)), (a_mo8, .inl (cI, 1024, .inl mnco)), (a_mo11, .inl (cI, 8000, .inl mby)), (a_mo16, .inl (cI, 16, .inl mwk))]) [0, 1, 2, 3, 4, 5, 6, 7, 8, 9] rfl
  have hDc := hD.sub (ws' := [(a_mo, .inr (10, [.int ma, .int md, .ref a_mo2, .ref a_mo3, .ref a_mo4, .ref a_mo5, .ref a_mo6, .ref a_mo7, .ref a_mo8, .int mq, .int mz, .ref a_mo11, .int msz, .int mat, .int mpl, .int mfa, .ref a_mo16, .int mth])), (a_mo2, .inl (cI, 1024, .inl mpic)), (a_mo3, .inl (cI, 1024, .inl mgiv)), (a_mo4, .inl (cI, 1024, .inl mkep)), (a_mo5, .inl (cI, 64, .inl mmod)), (a_mo6, .inl (cI, 1024, .inl mcoe)), (a_mo7, .inl (cI, 64, .inl mnmo)), (a_mo8, .inl (cI, 1024, .inl mnco)), (a_mo11, .inl (cI, 8000, .inl mby)), (a_mo16, .inl (cI, 16, .inl mwk))]) [0, 1, 2, 3, 4, 5, 6, 7, 8, 9] (by decide) rfl
  have hFc := va_free (wc := [(a_mo, .inr (10, [.int ma, .int md, .ref a_mo2, .ref a_mo3, .ref a_mo4, .ref a_mo5, .ref a_mo6, .ref a_mo7, .ref a_mo8, .int mq, .int mz, .ref a_mo11, .int msz, .int mat, .int mpl, .int mfa, .ref a_mo16, .int mth])), (a_mo2, .inl (cI, 1024, .inl mpic)), (a_mo3, .inl (cI, 1024, .inl mgiv)), (a_mo4, .inl (cI, 1024, .inl mkep)), (a_mo5, .inl (cI, 64, .inl mmod)), (a_mo6, .inl (cI, 1024, .inl mcoe)), (a_mo7, .inl (cI, 64, .inl mnmo)), (a_mo8, .inl (cI, 1024, .inl mnco)), (a_mo11, .inl (cI, 8000, .inl mby)), (a_mo16, .inl (cI, 16, .inl mwk))]) hD hS hA [0, 1, 2, 3, 4, 5, 6, 7, 8, 9] rfl
  refine jm_callv (wr := []) (va_runV (As := [.int 0, .int v2_3]) (rest := []) ⟨hx, hb, hml, hown, hts⟩ (c_X10_write l D cI cB tt a_mo a_mo2 a_mo3 a_mo4 a_mo5 a_mo6 a_mo7 a_mo8 a_mo11 a_mo16 H.size ma md mq mz msz mat mpl mfa mth mpic mgiv mkep mmod mcoe mnmo mnco mby mwk 0 v2_3 h) (cwV 2 hts (jm_gV mw_820 mw_822 mw_27 mw_65 mw_823) rfl rfl rfl (by decide +kernel) ⟨Nat.le_of_ble_eq_true rfl, Nat.le_of_ble_eq_true rfl⟩) ⟨jm_blind, va_recv hK hPc (ci := 10) (q0 := 0) rfl rfl, jm_pre hK hE hS hPc hDc hFc _⟩ rfl rfl hl.1 rfl (lv_room (Nat.le_of_ble_eq_true rfl)) dX10_writeU_20 ⟨Nat.zero_le _, Nat.zero_le _⟩) hS hP hD [0, 1, 2, 3, 4, 5, 6, 7, 8, 9] [] rfl rfl (by decide) (by decide) hFc (fun u_4 H_4 locs hw hP hD hS => ?_)
  obtain ⟨mat_4, mby_4⟩ := u_4
  have h := pr2_out hw
  have hP : va_P D vwCl [(a_mo, .inr (10, [.int ma, .int md, .ref a_mo2, .ref a_mo3, .ref a_mo4, .ref a_mo5, .ref a_mo6, .ref a_mo7, .ref a_mo8, .int mq, .int mz, .ref a_mo11, .int msz, .int mat_4, .int mpl, .int mfa, .ref a_mo16, .int mth])), (a_mo2, .inl (cI, 1024, .inl mpic)), (a_mo3, .inl (cI, 1024, .inl mgiv)), (a_mo4, .inl (cI, 1024, .inl mkep)), (a_mo5, .inl (cI, 64, .inl mmod)), (a_mo6, .inl (cI, 1024, .inl mcoe)), (a_mo7, .inl (cI, 64, .inl mnmo)), (a_mo8, .inl (cI, 1024, .inl mnco)), (a_mo11, .inl (cI, 8000, .inl mby_4)), (a_mo16, .inl (cI, 16, .inl mwk))] H_4 := hP.sub [0, 1, 2, 3, 4, 5, 6, 7, 8, 9] rfl
  have hD : va_D A [(a_mo, .inr (10, [.int ma, .int md, .ref a_mo2, .ref a_mo3, .ref a_mo4, .ref a_mo5, .ref a_mo6, .ref a_mo7, .ref a_mo8, .int mq, .int mz, .ref a_mo11, .int msz, .int mat_4, .int mpl, .int mfa, .ref a_mo16, .int mth])), (a_mo2, .inl (cI, 1024, .inl mpic)), (a_mo3, .inl (cI, 1024, .inl mgiv)), (a_mo4, .inl (cI, 1024, .inl mkep)), (a_mo5, .inl (cI, 64, .inl mmod)), (a_mo6, .inl (cI, 1024, .inl mcoe)), (a_mo7, .inl (cI, 64, .inl mnmo)), (a_mo8, .inl (cI, 1024, .inl mnco)), (a_mo11, .inl (cI, 8000, .inl mby_4)), (a_mo16, .inl (cI, 16, .inl mwk))] := hD.sub [0, 1, 2, 3, 4, 5, 6, 7, 8, 9] (by decide) rfl
  refine lv_aload_n hx hb dX10_writeU_23 rfl (lv_at hl 0 rfl) ?_
  refine lv_iconst (v := 1) hx hb dX10_writeU_24 (by decide) ?_
  refine lv_iconst (v := 1) hx hb dX10_writeU_25 (by decide) ?_
  have hPc := hP.sub (ws' := [(a_mo, .inr (10, [.int ma, .int md, .ref a_mo2, .ref a_mo3, .ref a_mo4, .ref a_mo5, .ref a_mo6, .ref a_mo7, .ref a_mo8, .int mq, .int mz, .ref a_mo11, .int msz, .int mat_4, .int mpl, .int mfa, .ref a_mo16, .int mth])), (a_mo2, .inl (cI, 1024, .inl mpic)), (a_mo3, .inl (cI, 1024, .inl mgiv)), (a_mo4, .inl (cI, 1024, .inl mkep)), (a_mo5, .inl (cI, 64, .inl mmod)), (a_mo6, .inl (cI, 1024, .inl mcoe)), (a_mo7, .inl (cI, 64, .inl mnmo)), (a_mo8, .inl (cI, 1024, .inl mnco)), (a_mo11, .inl (cI, 8000, .inl mby_4)), (a_mo16, .inl (cI, 16, .inl mwk))]) [0, 1, 2, 3, 4, 5, 6, 7, 8, 9] rfl
  have hDc := hD.sub (ws' := [(a_mo, .inr (10, [.int ma, .int md, .ref a_mo2, .ref a_mo3, .ref a_mo4, .ref a_mo5, .ref a_mo6, .ref a_mo7, .ref a_mo8, .int mq, .int mz, .ref a_mo11, .int msz, .int mat_4, .int mpl, .int mfa, .ref a_mo16, .int mth])), (a_mo2, .inl (cI, 1024, .inl mpic)), (a_mo3, .inl (cI, 1024, .inl mgiv)), (a_mo4, .inl (cI, 1024, .inl mkep)), (a_mo5, .inl (cI, 64, .inl mmod)), (a_mo6, .inl (cI, 1024, .inl mcoe)), (a_mo7, .inl (cI, 64, .inl mnmo)), (a_mo8, .inl (cI, 1024, .inl mnco)), (a_mo11, .inl (cI, 8000, .inl mby_4)), (a_mo16, .inl (cI, 16, .inl mwk))]) [0, 1, 2, 3, 4, 5, 6, 7, 8, 9] (by decide) rfl
  have hFc := va_free (wc := [(a_mo, .inr (10, [.int ma, .int md, .ref a_mo2, .ref a_mo3, .ref a_mo4, .ref a_mo5, .ref a_mo6, .ref a_mo7, .ref a_mo8, .int mq, .int mz, .ref a_mo11, .int msz, .int mat_4, .int mpl, .int mfa, .ref a_mo16, .int mth])), (a_mo2, .inl (cI, 1024, .inl mpic)), (a_mo3, .inl (cI, 1024, .inl mgiv)), (a_mo4, .inl (cI, 1024, .inl mkep)), (a_mo5, .inl (cI, 64, .inl mmod)), (a_mo6, .inl (cI, 1024, .inl mcoe)), (a_mo7, .inl (cI, 64, .inl mnmo)), (a_mo8, .inl (cI, 1024, .inl mnco)), (a_mo11, .inl (cI, 8000, .inl mby_4)), (a_mo16, .inl (cI, 16, .inl mwk))]) hD hS hA [0, 1, 2, 3, 4, 5, 6, 7, 8, 9] rfl
  refine jm_callv (wr := []) (va_runV (As := [.int 1, .int 1]) (rest := []) ⟨hx, hb, hml, hown, hts⟩ (c_X10_write l D cI cB tt a_mo a_mo2 a_mo3 a_mo4 a_mo5 a_mo6 a_mo7 a_mo8 a_mo11 a_mo16 H_4.size ma md mq mz msz mat_4 mpl mfa mth mpic mgiv mkep mmod mcoe mnmo mnco mby_4 mwk 1 1 h) (cwV 2 hts (jm_gV mw_820 mw_822 mw_27 mw_65 mw_823) rfl rfl rfl (by decide +kernel) ⟨Nat.le_of_ble_eq_true rfl, Nat.le_of_ble_eq_true rfl⟩) ⟨jm_blind, va_recv hK hPc (ci := 10) (q0 := 0) rfl rfl, jm_pre hK hE hS hPc hDc hFc _⟩ rfl rfl hl.1 rfl (lv_room (Nat.le_of_ble_eq_true rfl)) dX10_writeU_26 ⟨Nat.zero_le _, Nat.zero_le _⟩) hS hP hD [0, 1, 2, 3, 4, 5, 6, 7, 8, 9] [] rfl rfl (by decide) (by decide) hFc (fun u_5 H_5 locs hw hP hD hS => ?_)
  obtain ⟨mat_5, mby_5⟩ := u_5
  have h := pr2_out hw
  have hP : va_P D vwCl [(a_mo, .inr (10, [.int ma, .int md, .ref a_mo2, .ref a_mo3, .ref a_mo4, .ref a_mo5, .ref a_mo6, .ref a_mo7, .ref a_mo8, .int mq, .int mz, .ref a_mo11, .int msz, .int mat_5, .int mpl, .int mfa, .ref a_mo16, .int mth])), (a_mo2, .inl (cI, 1024, .inl mpic)), (a_mo3, .inl (cI, 1024, .inl mgiv)), (a_mo4, .inl (cI, 1024, .inl mkep)), (a_mo5, .inl (cI, 64, .inl mmod)), (a_mo6, .inl (cI, 1024, .inl mcoe)), (a_mo7, .inl (cI, 64, .inl mnmo)), (a_mo8, .inl (cI, 1024, .inl mnco)), (a_mo11, .inl (cI, 8000, .inl mby_5)), (a_mo16, .inl (cI, 16, .inl mwk))] H_5 := hP.sub [0, 1, 2, 3, 4, 5, 6, 7, 8, 9] rfl
  have hD : va_D A [(a_mo, .inr (10, [.int ma, .int md, .ref a_mo2, .ref a_mo3, .ref a_mo4, .ref a_mo5, .ref a_mo6, .ref a_mo7, .ref a_mo8, .int mq, .int mz, .ref a_mo11, .int msz, .int mat_5, .int mpl, .int mfa, .ref a_mo16, .int mth])), (a_mo2, .inl (cI, 1024, .inl mpic)), (a_mo3, .inl (cI, 1024, .inl mgiv)), (a_mo4, .inl (cI, 1024, .inl mkep)), (a_mo5, .inl (cI, 64, .inl mmod)), (a_mo6, .inl (cI, 1024, .inl mcoe)), (a_mo7, .inl (cI, 64, .inl mnmo)), (a_mo8, .inl (cI, 1024, .inl mnco)), (a_mo11, .inl (cI, 8000, .inl mby_5)), (a_mo16, .inl (cI, 16, .inl mwk))] := hD.sub [0, 1, 2, 3, 4, 5, 6, 7, 8, 9] (by decide) rfl
  refine lv_aload_n hx hb dX10_writeU_29 rfl (lv_at hl 0 rfl) ?_
  refine lv_iload_n hx hb dX10_writeU_30 rfl (lv_at hl 1 rfl) ?_
  refine lv_iconst (v := 1) hx hb dX10_writeU_31 (by decide) ?_
  refine lv_iload_n hx hb dX10_writeU_32 rfl (lv_at hl 2 rfl) ?_
  refine lv_ishl hx hb dX10_writeU_33 ?_
  refine lv_isub hx hb dX10_writeU_34 ?_
  refine lv_iconst (v := 1) hx hb dX10_writeU_35 (by decide) ?_
  refine lv_iadd hx hb dX10_writeU_36 ?_
  refine lv_iload_n hx hb dX10_writeU_37 rfl (lv_at hl 2 rfl) ?_
  have hPc := hP.sub (ws' := [(a_mo, .inr (10, [.int ma, .int md, .ref a_mo2, .ref a_mo3, .ref a_mo4, .ref a_mo5, .ref a_mo6, .ref a_mo7, .ref a_mo8, .int mq, .int mz, .ref a_mo11, .int msz, .int mat_5, .int mpl, .int mfa, .ref a_mo16, .int mth])), (a_mo2, .inl (cI, 1024, .inl mpic)), (a_mo3, .inl (cI, 1024, .inl mgiv)), (a_mo4, .inl (cI, 1024, .inl mkep)), (a_mo5, .inl (cI, 64, .inl mmod)), (a_mo6, .inl (cI, 1024, .inl mcoe)), (a_mo7, .inl (cI, 64, .inl mnmo)), (a_mo8, .inl (cI, 1024, .inl mnco)), (a_mo11, .inl (cI, 8000, .inl mby_5)), (a_mo16, .inl (cI, 16, .inl mwk))]) [0, 1, 2, 3, 4, 5, 6, 7, 8, 9] rfl
  have hDc := hD.sub (ws' := [(a_mo, .inr (10, [.int ma, .int md, .ref a_mo2, .ref a_mo3, .ref a_mo4, .ref a_mo5, .ref a_mo6, .ref a_mo7, .ref a_mo8, .int mq, .int mz, .ref a_mo11, .int msz, .int mat_5, .int mpl, .int mfa, .ref a_mo16, .int mth])), (a_mo2, .inl (cI, 1024, .inl mpic)), (a_mo3, .inl (cI, 1024, .inl mgiv)), (a_mo4, .inl (cI, 1024, .inl mkep)), (a_mo5, .inl (cI, 64, .inl mmod)), (a_mo6, .inl (cI, 1024, .inl mcoe)), (a_mo7, .inl (cI, 64, .inl mnmo)), (a_mo8, .inl (cI, 1024, .inl mnco)), (a_mo11, .inl (cI, 8000, .inl mby_5)), (a_mo16, .inl (cI, 16, .inl mwk))]) [0, 1, 2, 3, 4, 5, 6, 7, 8, 9] (by decide) rfl
  have hFc := va_free (wc := [(a_mo, .inr (10, [.int ma, .int md, .ref a_mo2, .ref a_mo3, .ref a_mo4, .ref a_mo5, .ref a_mo6, .ref a_mo7, .ref a_mo8, .int mq, .int mz, .ref a_mo11, .int msz, .int mat_5, .int mpl, .int mfa, .ref a_mo16, .int mth])), (a_mo2, .inl (cI, 1024, .inl mpic)), (a_mo3, .inl (cI, 1024, .inl mgiv)), (a_mo4, .inl (cI, 1024, .inl mkep)), (a_mo5, .inl (cI, 64, .inl mmod)), (a_mo6, .inl (cI, 1024, .inl mcoe)), (a_mo7, .inl (cI, 64, .inl mnmo)), (a_mo8, .inl (cI, 1024, .inl mnco)), (a_mo11, .inl (cI, 8000, .inl mby_5)), (a_mo16, .inl (cI, 16, .inl mwk))]) hD hS hA [0, 1, 2, 3, 4, 5, 6, 7, 8, 9] rfl
  refine jm_callv (wr := []) (va_runV (As := [.int ((v1 - (1 <<< (v2_3 &&& 31))) + 1), .int v2_3]) (rest := []) ⟨hx, hb, hml, hown, hts⟩ (c_X10_write l D cI cB tt a_mo a_mo2 a_mo3 a_mo4 a_mo5 a_mo6 a_mo7 a_mo8 a_mo11 a_mo16 H_5.size ma md mq mz msz mat_5 mpl mfa mth mpic mgiv mkep mmod mcoe mnmo mnco mby_5 mwk ((v1 - (1 <<< (v2_3 &&& 31))) + 1) v2_3 h) (cwV 2 hts (jm_gV mw_820 mw_822 mw_27 mw_65 mw_823) rfl rfl rfl (by decide +kernel) ⟨Nat.le_of_ble_eq_true rfl, Nat.le_of_ble_eq_true rfl⟩) ⟨jm_blind, va_recv hK hPc (ci := 10) (q0 := 0) rfl rfl, jm_pre hK hE hS hPc hDc hFc _⟩ rfl rfl hl.1 rfl (lv_room (Nat.le_of_ble_eq_true rfl)) dX10_writeU_38 ⟨Nat.zero_le _, Nat.zero_le _⟩) hS hP hD [0, 1, 2, 3, 4, 5, 6, 7, 8, 9] [] rfl rfl (by decide) (by decide) hFc (fun u_6 H_6 locs hw hP hD hS => ?_)
  obtain ⟨mat_6, mby_6⟩ := u_6
  have h := pr2_out hw
  have hP : va_P D vwCl [(a_mo, .inr (10, [.int ma, .int md, .ref a_mo2, .ref a_mo3, .ref a_mo4, .ref a_mo5, .ref a_mo6, .ref a_mo7, .ref a_mo8, .int mq, .int mz, .ref a_mo11, .int msz, .int mat_6, .int mpl, .int mfa, .ref a_mo16, .int mth])), (a_mo2, .inl (cI, 1024, .inl mpic)), (a_mo3, .inl (cI, 1024, .inl mgiv)), (a_mo4, .inl (cI, 1024, .inl mkep)), (a_mo5, .inl (cI, 64, .inl mmod)), (a_mo6, .inl (cI, 1024, .inl mcoe)), (a_mo7, .inl (cI, 64, .inl mnmo)), (a_mo8, .inl (cI, 1024, .inl mnco)), (a_mo11, .inl (cI, 8000, .inl mby_6)), (a_mo16, .inl (cI, 16, .inl mwk))] H_6 := hP.sub [0, 1, 2, 3, 4, 5, 6, 7, 8, 9] rfl
  have hD : va_D A [(a_mo, .inr (10, [.int ma, .int md, .ref a_mo2, .ref a_mo3, .ref a_mo4, .ref a_mo5, .ref a_mo6, .ref a_mo7, .ref a_mo8, .int mq, .int mz, .ref a_mo11, .int msz, .int mat_6, .int mpl, .int mfa, .ref a_mo16, .int mth])), (a_mo2, .inl (cI, 1024, .inl mpic)), (a_mo3, .inl (cI, 1024, .inl mgiv)), (a_mo4, .inl (cI, 1024, .inl mkep)), (a_mo5, .inl (cI, 64, .inl mmod)), (a_mo6, .inl (cI, 1024, .inl mcoe)), (a_mo7, .inl (cI, 64, .inl mnmo)), (a_mo8, .inl (cI, 1024, .inl mnco)), (a_mo11, .inl (cI, 8000, .inl mby_6)), (a_mo16, .inl (cI, 16, .inl mwk))] := hD.sub [0, 1, 2, 3, 4, 5, 6, 7, 8, 9] (by decide) rfl
  exact hret (mat_6, mby_6) _ _ _ _ dX10_writeU_41 h hP hD hS
def wp_X10_writeS (mat : Int32) (mby : (Nat → Int32)) (v1 : Int32) (K : Int32 → (Nat → Int32) → Prop) : Prop := jn1 (fun (t0_1 : Int32) => wp_X10_writeU mat mby t0_1 (fun (mat_2 : Int32) (mby_2 : (Nat → Int32)) => K mat_2 mby_2)) (fun J_1 => ((v1 ≤ 0 → J_1 ((-2) * v1)) ∧ (¬ v1 ≤ 0 → J_1 ((2 * v1) - 1))))
abbrev jw_X10_writeS : List Cond := .code yX10_writeS cX10_writeS 2 none :: jmAll
abbrev rmX10_writeS : Room := { frames := 2, cells := 0, slots := 0, locals := 45 }
set_option maxHeartbeats 4000000 in
set_option maxRecDepth 100000 in
theorem c_X10_writeS (l : Launch) (D : va_G) (cI cB : ClassId) (tt : Nat × Nat × Nat) (a_mo a_mo2 a_mo3 a_mo4 a_mo5 a_mo6 a_mo7 a_mo8 a_mo11 a_mo16 : Nat) (sz : Nat) (ma : Int32) (md : Int32) (mq : Int32) (mz : Int32) (msz : Int32) (mat : Int32) (mpl : Int32) (mfa : Int32) (mth : Int32) (mpic : (Nat → Int32)) (mgiv : (Nat → Int32)) (mkep : (Nat → Int32)) (mmod : (Nat → Int32)) (mcoe : (Nat → Int32)) (mnmo : (Nat → Int32)) (mnco : (Nat → Int32)) (mby : (Nat → Int32)) (mwk : (Nat → Int32)) (v1 : Int32) {K : Int32 → (Nat → Int32) → Prop} (h : wp_X10_writeS mat mby v1 K) : Met l yX10_writeS jw_X10_writeS rmX10_writeS (va_Pc [.ref a_mo, .int v1] (jm_Pre D cI cB tt (wd_mo_mo2_mo3_mo4_mo5_mo6_mo7_mo8_mo11_mo16 cI cB a_mo a_mo2 a_mo3 a_mo4 a_mo5 a_mo6 a_mo7 a_mo8 a_mo11 a_mo16 ma md mq mz msz mat mpl mfa mth mpic mgiv mkep mmod mcoe mnmo mnco mby mwk) sz)) (va_Qv (fun (u : Int32 × (Nat → Int32)) => pr2 K u) (jm_Post D cI cB (wd_mo_mo2_mo3_mo4_mo5_mo6_mo7_mo8_mo11_mo16 cI cB a_mo a_mo2 a_mo3 a_mo4 a_mo5 a_mo6 a_mo7 a_mo8 a_mo11 a_mo16 ma md mq mz msz mat mpl mfa mth mpic mgiv mkep mmod mcoe mnmo mnco mby mwk) sz (fun (u : Int32 × (Nat → Int32)) => wd_mo_mo2_mo3_mo4_mo5_mo6_mo7_mo8_mo11_mo16 cI cB a_mo a_mo2 a_mo3 a_mo4 a_mo5 a_mo6 a_mo7 a_mo8 a_mo11 a_mo16 ma md mq mz msz u.1 mpl mfa mth mpic mgiv mkep mmod mcoe mnmo mnco u.2 mwk)) (va_A (wd_mo_mo2_mo3_mo4_mo5_mo6_mo7_mo8_mo11_mo16 cI cB a_mo a_mo2 a_mo3 a_mo4 a_mo5 a_mo6 a_mo7 a_mo8 a_mo11 a_mo16 ma md mq mz msz mat mpl mfa mth mpic mgiv mkep mmod mcoe mnmo mnco mby mwk) sz)) 0 0 (va_A (wd_mo_mo2_mo3_mo4_mo5_mo6_mo7_mo8_mo11_mo16 cI cB a_mo a_mo2 a_mo3 a_mo4 a_mo5 a_mo6 a_mo7 a_mo8 a_mo11 a_mo16 ma md mq mz msz mat mpl mfa mth mpic mgiv mkep mmod mcoe mnmo mnco mby mwk) sz) := by
  refine jm_metV (by decide +kernel) rfl rfl (Nat.le_of_ble_eq_true rfl) ?_
  intro p e s m args below meth c A Q ls C0 hP hD hl hret
  obtain ⟨hx, hb, hml, hr, hown, hts, hlocks, hA, hK, hE⟩ := C0
  have hS : va_S A s.heap s.heap [] := va_S.rf
  have hl : lv_has ls 2 [(0, .ref a_mo), (1, .int v1)] := hl
  unfold wp_X10_writeS at h
  have hP : va_P D vwCl [(a_mo, .inr (10, [.int ma, .int md, .ref a_mo2, .ref a_mo3, .ref a_mo4, .ref a_mo5, .ref a_mo6, .ref a_mo7, .ref a_mo8, .int mq, .int mz, .ref a_mo11, .int msz, .int mat, .int mpl, .int mfa, .ref a_mo16, .int mth])), (a_mo2, .inl (cI, 1024, .inl mpic)), (a_mo3, .inl (cI, 1024, .inl mgiv)), (a_mo4, .inl (cI, 1024, .inl mkep)), (a_mo5, .inl (cI, 64, .inl mmod)), (a_mo6, .inl (cI, 1024, .inl mcoe)), (a_mo7, .inl (cI, 64, .inl mnmo)), (a_mo8, .inl (cI, 1024, .inl mnco)), (a_mo11, .inl (cI, 8000, .inl mby)), (a_mo16, .inl (cI, 16, .inl mwk))] s.heap := hP
  have hD : va_D A [(a_mo, .inr (10, [.int ma, .int md, .ref a_mo2, .ref a_mo3, .ref a_mo4, .ref a_mo5, .ref a_mo6, .ref a_mo7, .ref a_mo8, .int mq, .int mz, .ref a_mo11, .int msz, .int mat, .int mpl, .int mfa, .ref a_mo16, .int mth])), (a_mo2, .inl (cI, 1024, .inl mpic)), (a_mo3, .inl (cI, 1024, .inl mgiv)), (a_mo4, .inl (cI, 1024, .inl mkep)), (a_mo5, .inl (cI, 64, .inl mmod)), (a_mo6, .inl (cI, 1024, .inl mcoe)), (a_mo7, .inl (cI, 64, .inl mnmo)), (a_mo8, .inl (cI, 1024, .inl mnco)), (a_mo11, .inl (cI, 8000, .inl mby)), (a_mo16, .inl (cI, 16, .inl mwk))] := hD
  refine lv_aload_n hx hb dX10_writeS_0 rfl (lv_at hl 0 rfl) ?_
  refine lv_iload_n hx hb dX10_writeS_1 rfl (lv_at hl 1 rfl) ?_
  obtain ⟨J_1, hj_1, h⟩ := jn1_out h
  have hJ_1 : ∀ (t0_1 : Int32), ∀ (H : Heap) (locs : List Loc) (ls : Array Slot), J_1 t0_1 → va_P D vwCl [(a_mo, .inr (10, [.int ma, .int md, .ref a_mo2, .ref a_mo3, .ref a_mo4, .ref a_mo5, .ref a_mo6, .ref a_mo7, .ref a_mo8, .int mq, .int mz, .ref a_mo11, .int msz, .int mat, .int mpl, .int mfa, .ref a_mo16, .int mth])), (a_mo2, .inl (cI, 1024, .inl mpic)), (a_mo3, .inl (cI, 1024, .inl mgiv)), (a_mo4, .inl (cI, 1024, .inl mkep)), (a_mo5, .inl (cI, 64, .inl mmod)), (a_mo6, .inl (cI, 1024, .inl mcoe)), (a_mo7, .inl (cI, 64, .inl mnmo)), (a_mo8, .inl (cI, 1024, .inl mnco)), (a_mo11, .inl (cI, 8000, .inl mby)), (a_mo16, .inl (cI, 16, .inl mwk))] H → va_D A [(a_mo, .inr (10, [.int ma, .int md, .ref a_mo2, .ref a_mo3, .ref a_mo4, .ref a_mo5, .ref a_mo6, .ref a_mo7, .ref a_mo8, .int mq, .int mz, .ref a_mo11, .int msz, .int mat, .int mpl, .int mfa, .ref a_mo16, .int mth])), (a_mo2, .inl (cI, 1024, .inl mpic)), (a_mo3, .inl (cI, 1024, .inl mgiv)), (a_mo4, .inl (cI, 1024, .inl mkep)), (a_mo5, .inl (cI, 64, .inl mmod)), (a_mo6, .inl (cI, 1024, .inl mcoe)), (a_mo7, .inl (cI, 64, .inl mnmo)), (a_mo8, .inl (cI, 1024, .inl mnco)), (a_mo11, .inl (cI, 8000, .inl mby)), (a_mo16, .inl (cI, 16, .inl mwk))] → va_S A s.heap H locs → lv_has ls 2 [(0, .ref a_mo), (1, .int v1)] → W p l e rmX10_writeS s m args below meth c H locs 0 0 Q (F0 m 17 ls [.int t0_1, .ref a_mo]) := by
    intro t0_1 H locs ls h hP hD hS hl
    have h := hj_1 t0_1 h
    have hPc := hP.sub (ws' := [(a_mo, .inr (10, [.int ma, .int md, .ref a_mo2, .ref a_mo3, .ref a_mo4, .ref a_mo5, .ref a_mo6, .ref a_mo7, .ref a_mo8, .int mq, .int mz, .ref a_mo11, .int msz, .int mat, .int mpl, .int mfa, .ref a_mo16, .int mth])), (a_mo2, .inl (cI, 1024, .inl mpic)), (a_mo3, .inl (cI, 1024, .inl mgiv)), (a_mo4, .inl (cI, 1024, .inl mkep)), (a_mo5, .inl (cI, 64, .inl mmod)), (a_mo6, .inl (cI, 1024, .inl mcoe)), (a_mo7, .inl (cI, 64, .inl mnmo)), (a_mo8, .inl (cI, 1024, .inl mnco)), (a_mo11, .inl (cI, 8000, .inl mby)), (a_mo16, .inl (cI, 16, .inl mwk))]) [0, 1, 2, 3, 4, 5, 6, 7, 8, 9] rfl
    have hDc := hD.sub (ws' := [(a_mo, .inr (10, [.int ma, .int md, .ref a_mo2, .ref a_mo3, .ref a_mo4, .ref a_mo5, .ref a_mo6, .ref a_mo7, .ref a_mo8, .int mq, .int mz, .ref a_mo11, .int msz, .int mat, .int mpl, .int mfa, .ref a_mo16, .int mth])), (a_mo2, .inl (cI, 1024, .inl mpic)), (a_mo3, .inl (cI, 1024, .inl mgiv)), (a_mo4, .inl (cI, 1024, .inl mkep)), (a_mo5, .inl (cI, 64, .inl mmod)), (a_mo6, .inl (cI, 1024, .inl mcoe)), (a_mo7, .inl (cI, 64, .inl mnmo)), (a_mo8, .inl (cI, 1024, .inl mnco)), (a_mo11, .inl (cI, 8000, .inl mby)), (a_mo16, .inl (cI, 16, .inl mwk))]) [0, 1, 2, 3, 4, 5, 6, 7, 8, 9] (by decide) rfl
    have hFc := va_free (wc := [(a_mo, .inr (10, [.int ma, .int md, .ref a_mo2, .ref a_mo3, .ref a_mo4, .ref a_mo5, .ref a_mo6, .ref a_mo7, .ref a_mo8, .int mq, .int mz, .ref a_mo11, .int msz, .int mat, .int mpl, .int mfa, .ref a_mo16, .int mth])), (a_mo2, .inl (cI, 1024, .inl mpic)), (a_mo3, .inl (cI, 1024, .inl mgiv)), (a_mo4, .inl (cI, 1024, .inl mkep)), (a_mo5, .inl (cI, 64, .inl mmod)), (a_mo6, .inl (cI, 1024, .inl mcoe)), (a_mo7, .inl (cI, 64, .inl mnmo)), (a_mo8, .inl (cI, 1024, .inl mnco)), (a_mo11, .inl (cI, 8000, .inl mby)), (a_mo16, .inl (cI, 16, .inl mwk))]) hD hS hA [0, 1, 2, 3, 4, 5, 6, 7, 8, 9] rfl
    refine jm_callv (wr := []) (va_runV (As := [.int t0_1]) (rest := []) ⟨hx, hb, hml, hown, hts⟩ (c_X10_writeU l D cI cB tt a_mo a_mo2 a_mo3 a_mo4 a_mo5 a_mo6 a_mo7 a_mo8 a_mo11 a_mo16 H.size ma md mq mz msz mat mpl mfa mth mpic mgiv mkep mmod mcoe mnmo mnco mby mwk t0_1 h) (cwV 1 hts (jm_gV mw_816 mw_818 mw_26 mw_65 mw_819) rfl rfl rfl (by decide +kernel) ⟨Nat.le_of_ble_eq_true rfl, Nat.le_of_ble_eq_true rfl⟩) ⟨jm_blind, va_recv hK hPc (ci := 10) (q0 := 0) rfl rfl, jm_pre hK hE hS hPc hDc hFc _⟩ rfl rfl hl.1 rfl (lv_room (Nat.le_of_ble_eq_true rfl)) dX10_writeS_17 ⟨Nat.zero_le _, Nat.zero_le _⟩) hS hP hD [0, 1, 2, 3, 4, 5, 6, 7, 8, 9] [] rfl rfl (by decide) (by decide) hFc (fun u_2 H_2 locs hw hP hD hS => ?_)
    obtain ⟨mat_2, mby_2⟩ := u_2
    have h := pr2_out hw
    have hP : va_P D vwCl [(a_mo, .inr (10, [.int ma, .int md, .ref a_mo2, .ref a_mo3, .ref a_mo4, .ref a_mo5, .ref a_mo6, .ref a_mo7, .ref a_mo8, .int mq, .int mz, .ref a_mo11, .int msz, .int mat_2, .int mpl, .int mfa, .ref a_mo16, .int mth])), (a_mo2, .inl (cI, 1024, .inl mpic)), (a_mo3, .inl (cI, 1024, .inl mgiv)), (a_mo4, .inl (cI, 1024, .inl mkep)), (a_mo5, .inl (cI, 64, .inl mmod)), (a_mo6, .inl (cI, 1024, .inl mcoe)), (a_mo7, .inl (cI, 64, .inl mnmo)), (a_mo8, .inl (cI, 1024, .inl mnco)), (a_mo11, .inl (cI, 8000, .inl mby_2)), (a_mo16, .inl (cI, 16, .inl mwk))] H_2 := hP.sub [0, 1, 2, 3, 4, 5, 6, 7, 8, 9] rfl
    have hD : va_D A [(a_mo, .inr (10, [.int ma, .int md, .ref a_mo2, .ref a_mo3, .ref a_mo4, .ref a_mo5, .ref a_mo6, .ref a_mo7, .ref a_mo8, .int mq, .int mz, .ref a_mo11, .int msz, .int mat_2, .int mpl, .int mfa, .ref a_mo16, .int mth])), (a_mo2, .inl (cI, 1024, .inl mpic)), (a_mo3, .inl (cI, 1024, .inl mgiv)), (a_mo4, .inl (cI, 1024, .inl mkep)), (a_mo5, .inl (cI, 64, .inl mmod)), (a_mo6, .inl (cI, 1024, .inl mcoe)), (a_mo7, .inl (cI, 64, .inl mnmo)), (a_mo8, .inl (cI, 1024, .inl mnco)), (a_mo11, .inl (cI, 8000, .inl mby_2)), (a_mo16, .inl (cI, 16, .inl mwk))] := hD.sub [0, 1, 2, 3, 4, 5, 6, 7, 8, 9] (by decide) rfl
    exact hret (mat_2, mby_2) _ _ _ _ dX10_writeS_20 h hP hD hS
  refine lv_if_le (tgt := 13) hx hb dX10_writeS_2 (by decide) (fun c_3 => ?_) (fun c_3 => ?_)
  · have h := h.1 c_3
    refine lv_bipush (v := (-2)) hx hb dX10_writeS_13 (by decide) ?_
    refine lv_iload_n hx hb dX10_writeS_15 rfl (lv_at hl 1 rfl) ?_
    refine lv_imul hx hb dX10_writeS_16 ?_
    exact hJ_1 ((-2) * v1) s.heap _ _ h hP hD hS (lv_sub hl [0, 1] rfl)
  · have h := h.2 c_3
    refine lv_iconst (v := 2) hx hb dX10_writeS_5 (by decide) ?_
    refine lv_iload_n hx hb dX10_writeS_6 rfl (lv_at hl 1 rfl) ?_
    refine lv_imul hx hb dX10_writeS_7 ?_
    refine lv_iconst (v := 1) hx hb dX10_writeS_8 (by decide) ?_
    refine lv_isub hx hb dX10_writeS_9 ?_
    refine lv_goto (tgt := 17) hx hb dX10_writeS_10 (by decide) ?_
    exact hJ_1 ((2 * v1) - 1) s.heap _ _ h hP hD hS (lv_sub hl [0, 1] rfl)
def wp_X10_likely_mo5 (ma : Int32) (mmod : (Nat → Int32)) (v2 : Int32) (K : Int32 → Prop) : Prop := wp_X10_hasAbove ma v2 (fun (r_1 : Int32) => ((r_1 = 0 → K 2) ∧ (¬ r_1 = 0 → wp_X10_hasLeft ma v2 (fun (r_3 : Int32) => ((r_3 = 0 → K 2) ∧ (¬ r_3 = 0 → vp_in (v2 - ma) 64 ∧ ∀ x3_6 : Int32, x3_6 = jat mmod (v2 - ma) → vp_in (v2 - 1) 64 ∧ ∀ x4_8 : Int32, x4_8 = jat mmod (v2 - 1) → ((x4_8 ≤ x3_6 → K x4_8) ∧ (¬ x4_8 ≤ x3_6 → K x3_6))))))))
abbrev jw_X10_likely : List Cond := .code yX10_likely cX10_likely 5 (some .int) :: jmAll
abbrev rmX10_likely_mo5 : Room := { frames := 1, cells := 0, slots := 0, locals := 21 }
set_option maxHeartbeats 4000000 in
set_option maxRecDepth 100000 in
theorem c_X10_likely_mo5 (l : Launch) (D : va_G) (cI cB : ClassId) (tt : Nat × Nat × Nat) (a_mo a_mo2 a_mo3 a_mo4 a_mo5 a_mo6 a_mo7 a_mo8 a_mo11 a_mo16 : Nat) (sz : Nat) (ma : Int32) (md : Int32) (mq : Int32) (mz : Int32) (msz : Int32) (mat : Int32) (mpl : Int32) (mfa : Int32) (mth : Int32) (mpic : (Nat → Int32)) (mgiv : (Nat → Int32)) (mkep : (Nat → Int32)) (mmod : (Nat → Int32)) (mcoe : (Nat → Int32)) (mnmo : (Nat → Int32)) (mnco : (Nat → Int32)) (mby : (Nat → Int32)) (mwk : (Nat → Int32)) (v2 : Int32) {K : Int32 → Prop} (h : wp_X10_likely_mo5 ma mmod v2 K) : Met l yX10_likely jw_X10_likely rmX10_likely_mo5 (va_Pc [.ref a_mo, .ref a_mo5, .int v2] (jm_Pre D cI cB tt (wd_mo_mo2_mo3_mo4_mo5_mo6_mo7_mo8_mo11_mo16 cI cB a_mo a_mo2 a_mo3 a_mo4 a_mo5 a_mo6 a_mo7 a_mo8 a_mo11 a_mo16 ma md mq mz msz mat mpl mfa mth mpic mgiv mkep mmod mcoe mnmo mnco mby mwk) sz)) (va_Qi (fun (r : Int32) (u : Unit) => K r) (jm_Post D cI cB (wd_mo_mo2_mo3_mo4_mo5_mo6_mo7_mo8_mo11_mo16 cI cB a_mo a_mo2 a_mo3 a_mo4 a_mo5 a_mo6 a_mo7 a_mo8 a_mo11 a_mo16 ma md mq mz msz mat mpl mfa mth mpic mgiv mkep mmod mcoe mnmo mnco mby mwk) sz (fun (u : Unit) => wd_mo_mo2_mo3_mo4_mo5_mo6_mo7_mo8_mo11_mo16 cI cB a_mo a_mo2 a_mo3 a_mo4 a_mo5 a_mo6 a_mo7 a_mo8 a_mo11 a_mo16 ma md mq mz msz mat mpl mfa mth mpic mgiv mkep mmod mcoe mnmo mnco mby mwk)) (va_A (wd_mo_mo2_mo3_mo4_mo5_mo6_mo7_mo8_mo11_mo16 cI cB a_mo a_mo2 a_mo3 a_mo4 a_mo5 a_mo6 a_mo7 a_mo8 a_mo11 a_mo16 ma md mq mz msz mat mpl mfa mth mpic mgiv mkep mmod mcoe mnmo mnco mby mwk) sz)) 0 0 (va_A (wd_mo_mo2_mo3_mo4_mo5_mo6_mo7_mo8_mo11_mo16 cI cB a_mo a_mo2 a_mo3 a_mo4 a_mo5 a_mo6 a_mo7 a_mo8 a_mo11 a_mo16 ma md mq mz msz mat mpl mfa mth mpic mgiv mkep mmod mcoe mnmo mnco mby mwk) sz) := by
  refine jm_metI (by decide +kernel) rfl rfl (Nat.le_of_ble_eq_true rfl) ?_
  intro p e s m args below meth c A Q ls C0 hP hD hl hret
  obtain ⟨hx, hb, hml, hr, hown, hts, hlocks, hA, hK, hE⟩ := C0
  have hS : va_S A s.heap s.heap [] := va_S.rf
  have hl : lv_has ls 5 [(0, .ref a_mo), (1, .ref a_mo5), (2, .int v2)] := hl
  unfold wp_X10_likely_mo5 at h
  have hP : va_P D vwCl [(a_mo, .inr (10, [.int ma, .int md, .ref a_mo2, .ref a_mo3, .ref a_mo4, .ref a_mo5, .ref a_mo6, .ref a_mo7, .ref a_mo8, .int mq, .int mz, .ref a_mo11, .int msz, .int mat, .int mpl, .int mfa, .ref a_mo16, .int mth])), (a_mo2, .inl (cI, 1024, .inl mpic)), (a_mo3, .inl (cI, 1024, .inl mgiv)), (a_mo4, .inl (cI, 1024, .inl mkep)), (a_mo5, .inl (cI, 64, .inl mmod)), (a_mo6, .inl (cI, 1024, .inl mcoe)), (a_mo7, .inl (cI, 64, .inl mnmo)), (a_mo8, .inl (cI, 1024, .inl mnco)), (a_mo11, .inl (cI, 8000, .inl mby)), (a_mo16, .inl (cI, 16, .inl mwk))] s.heap := hP
  have hD : va_D A [(a_mo, .inr (10, [.int ma, .int md, .ref a_mo2, .ref a_mo3, .ref a_mo4, .ref a_mo5, .ref a_mo6, .ref a_mo7, .ref a_mo8, .int mq, .int mz, .ref a_mo11, .int msz, .int mat, .int mpl, .int mfa, .ref a_mo16, .int mth])), (a_mo2, .inl (cI, 1024, .inl mpic)), (a_mo3, .inl (cI, 1024, .inl mgiv)), (a_mo4, .inl (cI, 1024, .inl mkep)), (a_mo5, .inl (cI, 64, .inl mmod)), (a_mo6, .inl (cI, 1024, .inl mcoe)), (a_mo7, .inl (cI, 64, .inl mnmo)), (a_mo8, .inl (cI, 1024, .inl mnco)), (a_mo11, .inl (cI, 8000, .inl mby)), (a_mo16, .inl (cI, 16, .inl mwk))] := hD
  have iX10 : ∀ w ∈ wsX100, w ∈ jw_X10_likely := fun w h => List.mem_cons_of_mem _ (jm_iX10 w h)
  have lk7 := hts (.fieldLink RX10 7 "IntraMillModel" "across" "I") (List.mem_cons_of_mem _ mw_734)
  refine lv_aload_n hx hb dX10_likely_0 rfl (lv_at hl 0 rfl) ?_
  refine lv_iload_n hx hb dX10_likely_1 rfl (lv_at hl 2 rfl) ?_
  have hPc := hP.sub (ws' := [(a_mo, .inr (10, [.int ma, .int md, .ref a_mo2, .ref a_mo3, .ref a_mo4, .ref a_mo5, .ref a_mo6, .ref a_mo7, .ref a_mo8, .int mq, .int mz, .ref a_mo11, .int msz, .int mat, .int mpl, .int mfa, .ref a_mo16, .int mth])), (a_mo2, .inl (cI, 1024, .inl mpic)), (a_mo3, .inl (cI, 1024, .inl mgiv)), (a_mo4, .inl (cI, 1024, .inl mkep)), (a_mo5, .inl (cI, 64, .inl mmod)), (a_mo6, .inl (cI, 1024, .inl mcoe)), (a_mo7, .inl (cI, 64, .inl mnmo)), (a_mo8, .inl (cI, 1024, .inl mnco)), (a_mo11, .inl (cI, 8000, .inl mby)), (a_mo16, .inl (cI, 16, .inl mwk))]) [0, 1, 2, 3, 4, 5, 6, 7, 8, 9] rfl
  have hDc := hD.sub (ws' := [(a_mo, .inr (10, [.int ma, .int md, .ref a_mo2, .ref a_mo3, .ref a_mo4, .ref a_mo5, .ref a_mo6, .ref a_mo7, .ref a_mo8, .int mq, .int mz, .ref a_mo11, .int msz, .int mat, .int mpl, .int mfa, .ref a_mo16, .int mth])), (a_mo2, .inl (cI, 1024, .inl mpic)), (a_mo3, .inl (cI, 1024, .inl mgiv)), (a_mo4, .inl (cI, 1024, .inl mkep)), (a_mo5, .inl (cI, 64, .inl mmod)), (a_mo6, .inl (cI, 1024, .inl mcoe)), (a_mo7, .inl (cI, 64, .inl mnmo)), (a_mo8, .inl (cI, 1024, .inl mnco)), (a_mo11, .inl (cI, 8000, .inl mby)), (a_mo16, .inl (cI, 16, .inl mwk))]) [0, 1, 2, 3, 4, 5, 6, 7, 8, 9] (by decide) rfl
  have hFc := va_free (wc := [(a_mo, .inr (10, [.int ma, .int md, .ref a_mo2, .ref a_mo3, .ref a_mo4, .ref a_mo5, .ref a_mo6, .ref a_mo7, .ref a_mo8, .int mq, .int mz, .ref a_mo11, .int msz, .int mat, .int mpl, .int mfa, .ref a_mo16, .int mth])), (a_mo2, .inl (cI, 1024, .inl mpic)), (a_mo3, .inl (cI, 1024, .inl mgiv)), (a_mo4, .inl (cI, 1024, .inl mkep)), (a_mo5, .inl (cI, 64, .inl mmod)), (a_mo6, .inl (cI, 1024, .inl mcoe)), (a_mo7, .inl (cI, 64, .inl mnmo)), (a_mo8, .inl (cI, 1024, .inl mnco)), (a_mo11, .inl (cI, 8000, .inl mby)), (a_mo16, .inl (cI, 16, .inl mwk))]) hD hS hA [0, 1, 2, 3, 4, 5, 6, 7, 8, 9] rfl
  refine jm_calli (wr := []) (va_runV (As := [.int v2]) (rest := []) ⟨hx, hb, hml, hown, hts⟩ (c_X10_hasAbove l D cI cB tt a_mo a_mo2 a_mo3 a_mo4 a_mo5 a_mo6 a_mo7 a_mo8 a_mo11 a_mo16 s.heap.size ma md mq mz msz mat mpl mfa mth mpic mgiv mkep mmod mcoe mnmo mnco mby mwk v2 h) (cwV 1 hts (jm_gV mw_828 mw_830 mw_29 mw_65 mw_831) rfl rfl rfl (by decide +kernel) ⟨Nat.le_of_ble_eq_true rfl, Nat.le_of_ble_eq_true rfl⟩) ⟨jm_blind, va_recv hK hPc (ci := 10) (q0 := 0) rfl rfl, jm_pre hK hE hS hPc hDc hFc _⟩ rfl rfl hl.1 rfl (lv_room (Nat.le_of_ble_eq_true rfl)) dX10_likely_2 ⟨Nat.zero_le _, Nat.zero_le _⟩) hS hP hD [0, 1, 2, 3, 4, 5, 6, 7, 8, 9] [] rfl rfl (by decide) (by decide) hFc (fun r_1 u_1 H_1 locs hw hP hD hS => ?_)
  have h := hw
  have hP : va_P D vwCl [(a_mo, .inr (10, [.int ma, .int md, .ref a_mo2, .ref a_mo3, .ref a_mo4, .ref a_mo5, .ref a_mo6, .ref a_mo7, .ref a_mo8, .int mq, .int mz, .ref a_mo11, .int msz, .int mat, .int mpl, .int mfa, .ref a_mo16, .int mth])), (a_mo2, .inl (cI, 1024, .inl mpic)), (a_mo3, .inl (cI, 1024, .inl mgiv)), (a_mo4, .inl (cI, 1024, .inl mkep)), (a_mo5, .inl (cI, 64, .inl mmod)), (a_mo6, .inl (cI, 1024, .inl mcoe)), (a_mo7, .inl (cI, 64, .inl mnmo)), (a_mo8, .inl (cI, 1024, .inl mnco)), (a_mo11, .inl (cI, 8000, .inl mby)), (a_mo16, .inl (cI, 16, .inl mwk))] H_1 := hP.sub [0, 1, 2, 3, 4, 5, 6, 7, 8, 9] rfl
  have hD : va_D A [(a_mo, .inr (10, [.int ma, .int md, .ref a_mo2, .ref a_mo3, .ref a_mo4, .ref a_mo5, .ref a_mo6, .ref a_mo7, .ref a_mo8, .int mq, .int mz, .ref a_mo11, .int msz, .int mat, .int mpl, .int mfa, .ref a_mo16, .int mth])), (a_mo2, .inl (cI, 1024, .inl mpic)), (a_mo3, .inl (cI, 1024, .inl mgiv)), (a_mo4, .inl (cI, 1024, .inl mkep)), (a_mo5, .inl (cI, 64, .inl mmod)), (a_mo6, .inl (cI, 1024, .inl mcoe)), (a_mo7, .inl (cI, 64, .inl mnmo)), (a_mo8, .inl (cI, 1024, .inl mnco)), (a_mo11, .inl (cI, 8000, .inl mby)), (a_mo16, .inl (cI, 16, .inl mwk))] := hD.sub [0, 1, 2, 3, 4, 5, 6, 7, 8, 9] (by decide) rfl
  refine lv_if_eq (tgt := 16) hx hb dX10_likely_5 (by decide) (fun c_2 => ?_) (fun c_2 => ?_)
  · have h := h.1 c_2
    refine lv_iconst (v := 2) hx hb dX10_likely_16 (by decide) ?_
    exact hret 2 () _ _ _ _ dX10_likely_17 (vp_nar_int _) h hP hD hS
  · have h := h.2 c_2
    refine lv_aload_n hx hb dX10_likely_8 rfl (lv_at hl 0 rfl) ?_
    refine lv_iload_n hx hb dX10_likely_9 rfl (lv_at hl 2 rfl) ?_
    have hPc := hP.sub (ws' := [(a_mo, .inr (10, [.int ma, .int md, .ref a_mo2, .ref a_mo3, .ref a_mo4, .ref a_mo5, .ref a_mo6, .ref a_mo7, .ref a_mo8, .int mq, .int mz, .ref a_mo11, .int msz, .int mat, .int mpl, .int mfa, .ref a_mo16, .int mth])), (a_mo2, .inl (cI, 1024, .inl mpic)), (a_mo3, .inl (cI, 1024, .inl mgiv)), (a_mo4, .inl (cI, 1024, .inl mkep)), (a_mo5, .inl (cI, 64, .inl mmod)), (a_mo6, .inl (cI, 1024, .inl mcoe)), (a_mo7, .inl (cI, 64, .inl mnmo)), (a_mo8, .inl (cI, 1024, .inl mnco)), (a_mo11, .inl (cI, 8000, .inl mby)), (a_mo16, .inl (cI, 16, .inl mwk))]) [0, 1, 2, 3, 4, 5, 6, 7, 8, 9] rfl
    have hDc := hD.sub (ws' := [(a_mo, .inr (10, [.int ma, .int md, .ref a_mo2, .ref a_mo3, .ref a_mo4, .ref a_mo5, .ref a_mo6, .ref a_mo7, .ref a_mo8, .int mq, .int mz, .ref a_mo11, .int msz, .int mat, .int mpl, .int mfa, .ref a_mo16, .int mth])), (a_mo2, .inl (cI, 1024, .inl mpic)), (a_mo3, .inl (cI, 1024, .inl mgiv)), (a_mo4, .inl (cI, 1024, .inl mkep)), (a_mo5, .inl (cI, 64, .inl mmod)), (a_mo6, .inl (cI, 1024, .inl mcoe)), (a_mo7, .inl (cI, 64, .inl mnmo)), (a_mo8, .inl (cI, 1024, .inl mnco)), (a_mo11, .inl (cI, 8000, .inl mby)), (a_mo16, .inl (cI, 16, .inl mwk))]) [0, 1, 2, 3, 4, 5, 6, 7, 8, 9] (by decide) rfl
    have hFc := va_free (wc := [(a_mo, .inr (10, [.int ma, .int md, .ref a_mo2, .ref a_mo3, .ref a_mo4, .ref a_mo5, .ref a_mo6, .ref a_mo7, .ref a_mo8, .int mq, .int mz, .ref a_mo11, .int msz, .int mat, .int mpl, .int mfa, .ref a_mo16, .int mth])), (a_mo2, .inl (cI, 1024, .inl mpic)), (a_mo3, .inl (cI, 1024, .inl mgiv)), (a_mo4, .inl (cI, 1024, .inl mkep)), (a_mo5, .inl (cI, 64, .inl mmod)), (a_mo6, .inl (cI, 1024, .inl mcoe)), (a_mo7, .inl (cI, 64, .inl mnmo)), (a_mo8, .inl (cI, 1024, .inl mnco)), (a_mo11, .inl (cI, 8000, .inl mby)), (a_mo16, .inl (cI, 16, .inl mwk))]) hD hS hA [0, 1, 2, 3, 4, 5, 6, 7, 8, 9] rfl
    refine jm_calli (wr := []) (va_runV (As := [.int v2]) (rest := []) ⟨hx, hb, hml, hown, hts⟩ (c_X10_hasLeft l D cI cB tt a_mo a_mo2 a_mo3 a_mo4 a_mo5 a_mo6 a_mo7 a_mo8 a_mo11 a_mo16 H_1.size ma md mq mz msz mat mpl mfa mth mpic mgiv mkep mmod mcoe mnmo mnco mby mwk v2 h) (cwV 1 hts (jm_gV mw_832 mw_834 mw_30 mw_65 mw_835) rfl rfl rfl (by decide +kernel) ⟨Nat.le_of_ble_eq_true rfl, Nat.le_of_ble_eq_true rfl⟩) ⟨jm_blind, va_recv hK hPc (ci := 10) (q0 := 0) rfl rfl, jm_pre hK hE hS hPc hDc hFc _⟩ rfl rfl hl.1 rfl (lv_room (Nat.le_of_ble_eq_true rfl)) dX10_likely_10 ⟨Nat.zero_le _, Nat.zero_le _⟩) hS hP hD [0, 1, 2, 3, 4, 5, 6, 7, 8, 9] [] rfl rfl (by decide) (by decide) hFc (fun r_3 u_3 H_3 locs hw hP hD hS => ?_)
    have h := hw
    have hP : va_P D vwCl [(a_mo, .inr (10, [.int ma, .int md, .ref a_mo2, .ref a_mo3, .ref a_mo4, .ref a_mo5, .ref a_mo6, .ref a_mo7, .ref a_mo8, .int mq, .int mz, .ref a_mo11, .int msz, .int mat, .int mpl, .int mfa, .ref a_mo16, .int mth])), (a_mo2, .inl (cI, 1024, .inl mpic)), (a_mo3, .inl (cI, 1024, .inl mgiv)), (a_mo4, .inl (cI, 1024, .inl mkep)), (a_mo5, .inl (cI, 64, .inl mmod)), (a_mo6, .inl (cI, 1024, .inl mcoe)), (a_mo7, .inl (cI, 64, .inl mnmo)), (a_mo8, .inl (cI, 1024, .inl mnco)), (a_mo11, .inl (cI, 8000, .inl mby)), (a_mo16, .inl (cI, 16, .inl mwk))] H_3 := hP.sub [0, 1, 2, 3, 4, 5, 6, 7, 8, 9] rfl
    have hD : va_D A [(a_mo, .inr (10, [.int ma, .int md, .ref a_mo2, .ref a_mo3, .ref a_mo4, .ref a_mo5, .ref a_mo6, .ref a_mo7, .ref a_mo8, .int mq, .int mz, .ref a_mo11, .int msz, .int mat, .int mpl, .int mfa, .ref a_mo16, .int mth])), (a_mo2, .inl (cI, 1024, .inl mpic)), (a_mo3, .inl (cI, 1024, .inl mgiv)), (a_mo4, .inl (cI, 1024, .inl mkep)), (a_mo5, .inl (cI, 64, .inl mmod)), (a_mo6, .inl (cI, 1024, .inl mcoe)), (a_mo7, .inl (cI, 64, .inl mnmo)), (a_mo8, .inl (cI, 1024, .inl mnco)), (a_mo11, .inl (cI, 8000, .inl mby)), (a_mo16, .inl (cI, 16, .inl mwk))] := hD.sub [0, 1, 2, 3, 4, 5, 6, 7, 8, 9] (by decide) rfl
    refine lv_if_ne (tgt := 18) hx hb dX10_likely_13 (by decide) (fun c_4 => ?_) (fun c_4 => ?_)
    · have h := h.2 c_4
      refine lv_aload_n hx hb dX10_likely_18 rfl (lv_at hl 1 rfl) ?_
      refine lv_iload_n hx hb dX10_likely_19 rfl (lv_at hl 2 rfl) ?_
      refine lv_aload_n hx hb dX10_likely_20 rfl (lv_at hl 0 rfl) ?_
      refine va_get (D := D) (ci := 10) (v := .int ma) (C := RX10) (T := TX10) (N := 18) hx hb hts iX10 hown hK hP 0 rfl rfl 0 (by decide) lk7 (fun _ h9 => h9) rfl dX10_likely_21 ?_
      refine lv_isub hx hb dX10_likely_24 ?_
      obtain ⟨hi_5, h⟩ := h
      refine va_iald hx hb hK hP 4 0 rfl rfl hi_5 dX10_likely_25 ?_
      refine lv_topi (fun x3_6 ex3_6 => ?_)
      have h := h x3_6 ex3_6
      refine lv_istore_n (lv' := [(3, .int x3_6), (0, .ref a_mo), (1, .ref a_mo5), (2, .int v2)]) hx hb dX10_likely_26 rfl hl (by decide) rfl (fun ls hl => ?_)
      refine lv_aload_n hx hb dX10_likely_27 rfl (lv_at hl 2 rfl) ?_
      refine lv_iload_n hx hb dX10_likely_28 rfl (lv_at hl 3 rfl) ?_
      refine lv_iconst (v := 1) hx hb dX10_likely_29 (by decide) ?_
      refine lv_isub hx hb dX10_likely_30 ?_
      obtain ⟨hi_7, h⟩ := h
      refine va_iald hx hb hK hP 4 0 rfl rfl hi_7 dX10_likely_31 ?_
      refine lv_topi (fun x4_8 ex4_8 => ?_)
      have h := h x4_8 ex4_8
      refine lv_istore (lv' := [(4, .int x4_8), (3, .int x3_6), (0, .ref a_mo), (1, .ref a_mo5), (2, .int v2)]) hx hb dX10_likely_32 hl (by decide) rfl (fun ls hl => ?_)
      refine lv_iload_n hx hb dX10_likely_34 rfl (lv_at hl 1 rfl) ?_
      refine lv_iload hx hb dX10_likely_35 (lv_at hl 0 rfl) ?_
      refine lv_icmp_ge (tgt := 44) hx hb dX10_likely_37 (by decide) (fun c_9 => ?_) (fun c_9 => ?_)
      · have h := h.1 c_9
        refine lv_iload hx hb dX10_likely_44 (lv_at hl 0 rfl) ?_
        exact hret x4_8 () _ _ _ _ dX10_likely_46 (vp_nar_int _) h hP hD hS
      · have h := h.2 c_9
        refine lv_iload_n hx hb dX10_likely_40 rfl (lv_at hl 1 rfl) ?_
        refine lv_goto (tgt := 46) hx hb dX10_likely_41 (by decide) ?_
        exact hret x3_6 () _ _ _ _ dX10_likely_46 (vp_nar_int _) h hP hD hS
    · have h := h.1 c_4
      refine lv_iconst (v := 2) hx hb dX10_likely_16 (by decide) ?_
      exact hret 2 () _ _ _ _ dX10_likely_17 (vp_nar_int _) h hP hD hS
