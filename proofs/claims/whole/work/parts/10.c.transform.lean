def wp_X8_factorOf (v0 v1 : Int32) (K : Int32 → Prop) : Prop := ∀ x2_1 : Int32, x2_1 = (jrem v0 2) + (jrem (v0 / 4) 2) → K ((3 * (jrem v1 6)) + x2_1)
abbrev jw_X8_factorOf : List Cond := .code yX8_factorOf cX8_factorOf 3 (some .int) :: jmAll
abbrev rmX8_factorOf : Room := { frames := 0, cells := 0, slots := 0, locals := 0 }
set_option maxHeartbeats 4000000 in
set_option maxRecDepth 100000 in
theorem c_X8_factorOf (l : Launch) (D : va_G) (cI cB : ClassId) (tt : Nat × Nat × Nat) (sz : Nat) (v0 v1 : Int32) {K : Int32 → Prop} (h : wp_X8_factorOf v0 v1 K) : Met l yX8_factorOf jw_X8_factorOf rmX8_factorOf (va_Pc [.int v0, .int v1] (jm_Pre D cI cB tt [] sz)) (va_Qi (fun (r : Int32) (u : Unit) => K r) (jm_Post D cI cB [] sz (fun (_ : Unit) => [])) (va_A [] sz)) 0 0 (va_A [] sz) := by
  refine jm_metI (by decide +kernel) rfl rfl (Nat.le_of_ble_eq_true rfl) ?_
  intro p e s m args below meth c A Q ls C0 hP hD hl hret
  obtain ⟨hx, hb, hml, hr, hown, hts, hlocks, hA, hK, hE⟩ := C0
  have hS : va_S A s.heap s.heap [] := va_S.rf
  have hl : lv_has ls 3 [(0, .int v0), (1, .int v1)] := hl
  unfold wp_X8_factorOf at h
  have hP : va_P D vwCl [] s.heap := hP
  have hD : va_D A [] := hD
  refine lv_iload_n hx hb dX8_factorOf_0 rfl (lv_at hl 0 rfl) ?_
  refine lv_iconst (v := 2) hx hb dX8_factorOf_1 (by decide) ?_
  refine lv_irem hx hb dX8_factorOf_2 (by decide) ?_
  refine lv_iload_n hx hb dX8_factorOf_3 rfl (lv_at hl 0 rfl) ?_
  refine lv_iconst (v := 4) hx hb dX8_factorOf_4 (by decide) ?_
  refine lv_idiv hx hb dX8_factorOf_5 (by decide) ?_
  refine lv_iconst (v := 2) hx hb dX8_factorOf_6 (by decide) ?_
  refine lv_irem hx hb dX8_factorOf_7 (by decide) ?_
  refine lv_iadd hx hb dX8_factorOf_8 ?_
  refine lv_topi (fun x2_1 ex2_1 => ?_)
  have h := h x2_1 ex2_1
  refine lv_istore_n (lv' := [(2, .int x2_1), (0, .int v0), (1, .int v1)]) hx hb dX8_factorOf_9 rfl hl (by decide) rfl (fun ls hl => ?_)
  refine lv_iconst (v := 3) hx hb dX8_factorOf_10 (by decide) ?_
  refine lv_iload_n hx hb dX8_factorOf_11 rfl (lv_at hl 2 rfl) ?_
  refine lv_bipush (v := 6) hx hb dX8_factorOf_12 (by decide) ?_
  refine lv_irem hx hb dX8_factorOf_14 (by decide) ?_
  refine lv_imul hx hb dX8_factorOf_15 ?_
  refine lv_iload_n hx hb dX8_factorOf_16 rfl (lv_at hl 0 rfl) ?_
  refine lv_iadd hx hb dX8_factorOf_17 ?_
  exact hret ((3 * (jrem v1 6)) + x2_1) () _ _ _ _ dX8_factorOf_18 (vp_nar_int _) h hP hD hS
abbrev wd_tr_trc (cI cB : ClassId) (a_tr a_trc : Nat) (tc : (Nat → Int32)) : va_W := [(a_tr, .inr (8, [.ref a_trc])), (a_trc, .inl (cI, 16, .inl tc))]
def wp_X8_backLine (tc : (Nat → Int32)) (v1 v2 : Int32) (K : (Nat → Int32) → Prop) : Prop := vp_in v1 16 ∧ ∀ x3_2 : Int32, x3_2 = jat tc v1 → vp_in (v1 + v2) 16 ∧ ∀ x4_4 : Int32, x4_4 = jat tc (v1 + v2) → vp_in (v1 + (2 * v2)) 16 ∧ ∀ x5_6 : Int32, x5_6 = jat tc (v1 + (2 * v2)) → vp_in (v1 + (3 * v2)) 16 ∧ ∀ x6_8 : Int32, x6_8 = jat tc (v1 + (3 * v2)) → ∀ x7_9 : Int32, x7_9 = x3_2 + x5_6 → ∀ x8_10 : Int32, x8_10 = x3_2 - x5_6 → ∀ x9_11 : Int32, x9_11 = (x4_4 >>> (1 &&& 31)) - x6_8 → ∀ x10_12 : Int32, x10_12 = x4_4 + (x6_8 >>> (1 &&& 31)) → vp_in v1 16 ∧ vp_in (v1 + v2) 16 ∧ vp_in (v1 + (2 * v2)) 16 ∧ vp_in (v1 + (3 * v2)) 16 ∧ K (jup (jup (jup (jup tc v1 (x7_9 + x10_12)) (v1 + v2) (x8_10 + x9_11)) (v1 + (2 * v2)) (x8_10 - x9_11)) (v1 + (3 * v2)) (x7_9 - x10_12))
abbrev jw_X8_backLine : List Cond := .code yX8_backLine cX8_backLine 11 none :: jmAll
abbrev rmX8_backLine : Room := { frames := 0, cells := 0, slots := 0, locals := 0 }
set_option maxHeartbeats 4000000 in
set_option maxRecDepth 100000 in
theorem c_X8_backLine (l : Launch) (D : va_G) (cI cB : ClassId) (tt : Nat × Nat × Nat) (a_tr a_trc : Nat) (sz : Nat) (tc : (Nat → Int32)) (v1 v2 : Int32) {K : (Nat → Int32) → Prop} (h : wp_X8_backLine tc v1 v2 K) : Met l yX8_backLine jw_X8_backLine rmX8_backLine (va_Pc [.ref a_tr, .int v1, .int v2] (jm_Pre D cI cB tt (wd_tr_trc cI cB a_tr a_trc tc) sz)) (va_Qv (fun (u : (Nat → Int32)) => K u) (jm_Post D cI cB (wd_tr_trc cI cB a_tr a_trc tc) sz (fun (u : (Nat → Int32)) => wd_tr_trc cI cB a_tr a_trc u)) (va_A (wd_tr_trc cI cB a_tr a_trc tc) sz)) 0 0 (va_A (wd_tr_trc cI cB a_tr a_trc tc) sz) := by
  refine jm_metV (by decide +kernel) rfl rfl (Nat.le_of_ble_eq_true rfl) ?_
  intro p e s m args below meth c A Q ls C0 hP hD hl hret
  obtain ⟨hx, hb, hml, hr, hown, hts, hlocks, hA, hK, hE⟩ := C0
  have hS : va_S A s.heap s.heap [] := va_S.rf
  have hl : lv_has ls 11 [(0, .ref a_tr), (1, .int v1), (2, .int v2)] := hl
  unfold wp_X8_backLine at h
  have hP : va_P D vwCl [(a_tr, .inr (8, [.ref a_trc])), (a_trc, .inl (cI, 16, .inl tc))] s.heap := hP
  have hD : va_D A [(a_tr, .inr (8, [.ref a_trc])), (a_trc, .inl (cI, 16, .inl tc))] := hD
  have iX8 : ∀ w ∈ wsX80, w ∈ jw_X8_backLine := fun w h => List.mem_cons_of_mem _ (jm_iX8 w h)
  have lk9 := hts (.fieldLink RX8 9 "IntraMill$Transform" "cells" "[I") (List.mem_cons_of_mem _ mw_134)
  refine lv_aload_n hx hb dX8_backLine_0 rfl (lv_at hl 0 rfl) ?_
  refine va_get (D := D) (ci := 8) (v := .ref a_trc) (C := RX8) (T := TX8) (N := 1) hx hb hts iX8 hown hK hP 0 rfl rfl 0 (by decide) lk9 (fun _ h9 => h9) rfl dX8_backLine_1 ?_
  refine lv_iload_n hx hb dX8_backLine_4 rfl (lv_at hl 1 rfl) ?_
  obtain ⟨hi_1, h⟩ := h
  refine va_iald hx hb hK hP 1 0 rfl rfl hi_1 dX8_backLine_5 ?_
  refine lv_topi (fun x3_2 ex3_2 => ?_)
  have h := h x3_2 ex3_2
  refine lv_istore_n (lv' := [(3, .int x3_2), (0, .ref a_tr), (1, .int v1), (2, .int v2)]) hx hb dX8_backLine_6 rfl hl (by decide) rfl (fun ls hl => ?_)
  refine lv_aload_n hx hb dX8_backLine_7 rfl (lv_at hl 1 rfl) ?_
  refine va_get (D := D) (ci := 8) (v := .ref a_trc) (C := RX8) (T := TX8) (N := 1) hx hb hts iX8 hown hK hP 0 rfl rfl 0 (by decide) lk9 (fun _ h9 => h9) rfl dX8_backLine_8 ?_
  refine lv_iload_n hx hb dX8_backLine_11 rfl (lv_at hl 2 rfl) ?_
  refine lv_iload_n hx hb dX8_backLine_12 rfl (lv_at hl 3 rfl) ?_
  refine lv_iadd hx hb dX8_backLine_13 ?_
  obtain ⟨hi_3, h⟩ := h
  refine va_iald hx hb hK hP 1 0 rfl rfl hi_3 dX8_backLine_14 ?_
  refine lv_topi (fun x4_4 ex4_4 => ?_)
  have h := h x4_4 ex4_4
  refine lv_istore (lv' := [(4, .int x4_4), (3, .int x3_2), (0, .ref a_tr), (1, .int v1), (2, .int v2)]) hx hb dX8_backLine_15 hl (by decide) rfl (fun ls hl => ?_)
  refine lv_aload_n hx hb dX8_backLine_17 rfl (lv_at hl 2 rfl) ?_
  refine va_get (D := D) (ci := 8) (v := .ref a_trc) (C := RX8) (T := TX8) (N := 1) hx hb hts iX8 hown hK hP 0 rfl rfl 0 (by decide) lk9 (fun _ h9 => h9) rfl dX8_backLine_18 ?_
  refine lv_iload_n hx hb dX8_backLine_21 rfl (lv_at hl 3 rfl) ?_
  refine lv_iconst (v := 2) hx hb dX8_backLine_22 (by decide) ?_
  refine lv_iload_n hx hb dX8_backLine_23 rfl (lv_at hl 4 rfl) ?_
  refine lv_imul hx hb dX8_backLine_24 ?_
  refine lv_iadd hx hb dX8_backLine_25 ?_
  obtain ⟨hi_5, h⟩ := h
  refine va_iald hx hb hK hP 1 0 rfl rfl hi_5 dX8_backLine_26 ?_
  refine lv_topi (fun x5_6 ex5_6 => ?_)
  have h := h x5_6 ex5_6
  refine lv_istore (lv' := [(5, .int x5_6), (4, .int x4_4), (3, .int x3_2), (0, .ref a_tr), (1, .int v1), (2, .int v2)]) hx hb dX8_backLine_27 hl (by decide) rfl (fun ls hl => ?_)
  refine lv_aload_n hx hb dX8_backLine_29 rfl (lv_at hl 3 rfl) ?_
  refine va_get (D := D) (ci := 8) (v := .ref a_trc) (C := RX8) (T := TX8) (N := 1) hx hb hts iX8 hown hK hP 0 rfl rfl 0 (by decide) lk9 (fun _ h9 => h9) rfl dX8_backLine_30 ?_
  refine lv_iload_n hx hb dX8_backLine_33 rfl (lv_at hl 4 rfl) ?_
  refine lv_iconst (v := 3) hx hb dX8_backLine_34 (by decide) ?_
  refine lv_iload_n hx hb dX8_backLine_35 rfl (lv_at hl 5 rfl) ?_
  refine lv_imul hx hb dX8_backLine_36 ?_
  refine lv_iadd hx hb dX8_backLine_37 ?_
  obtain ⟨hi_7, h⟩ := h
  refine va_iald hx hb hK hP 1 0 rfl rfl hi_7 dX8_backLine_38 ?_
  refine lv_topi (fun x6_8 ex6_8 => ?_)
  have h := h x6_8 ex6_8
  refine lv_istore (lv' := [(6, .int x6_8), (5, .int x5_6), (4, .int x4_4), (3, .int x3_2), (0, .ref a_tr), (1, .int v1), (2, .int v2)]) hx hb dX8_backLine_39 hl (by decide) rfl (fun ls hl => ?_)
  refine lv_iload_n hx hb dX8_backLine_41 rfl (lv_at hl 3 rfl) ?_
  refine lv_iload hx hb dX8_backLine_42 (lv_at hl 1 rfl) ?_
  refine lv_iadd hx hb dX8_backLine_44 ?_
  refine lv_topi (fun x7_9 ex7_9 => ?_)
  have h := h x7_9 ex7_9
  refine lv_istore (lv' := [(7, .int x7_9), (6, .int x6_8), (5, .int x5_6), (4, .int x4_4), (3, .int x3_2), (0, .ref a_tr), (1, .int v1), (2, .int v2)]) hx hb dX8_backLine_45 hl (by decide) rfl (fun ls hl => ?_)
  refine lv_iload_n hx hb dX8_backLine_47 rfl (lv_at hl 4 rfl) ?_
  refine lv_iload hx hb dX8_backLine_48 (lv_at hl 2 rfl) ?_
  refine lv_isub hx hb dX8_backLine_50 ?_
  refine lv_topi (fun x8_10 ex8_10 => ?_)
  have h := h x8_10 ex8_10
  refine lv_istore (lv' := [(8, .int x8_10), (7, .int x7_9), (6, .int x6_8), (5, .int x5_6), (4, .int x4_4), (3, .int x3_2), (0, .ref a_tr), (1, .int v1), (2, .int v2)]) hx hb dX8_backLine_51 hl (by decide) rfl (fun ls hl => ?_)
  refine lv_iload hx hb dX8_backLine_53 (lv_at hl 4 rfl) ?_
  refine lv_iconst (v := 1) hx hb dX8_backLine_55 (by decide) ?_
  refine lv_ishr hx hb dX8_backLine_56 ?_
  refine lv_iload hx hb dX8_backLine_57 (lv_at hl 2 rfl) ?_
  refine lv_isub hx hb dX8_backLine_59 ?_
  refine lv_topi (fun x9_11 ex9_11 => ?_)
  have h := h x9_11 ex9_11
  refine lv_istore (lv' := [(9, .int x9_11), (8, .int x8_10), (7, .int x7_9), (6, .int x6_8), (5, .int x5_6), (4, .int x4_4), (3, .int x3_2), (0, .ref a_tr), (1, .int v1), (2, .int v2)]) hx hb dX8_backLine_60 hl (by decide) rfl (fun ls hl => ?_)
  refine lv_iload hx hb dX8_backLine_62 (lv_at hl 5 rfl) ?_
  refine lv_iload hx hb dX8_backLine_64 (lv_at hl 3 rfl) ?_
  refine lv_iconst (v := 1) hx hb dX8_backLine_66 (by decide) ?_
  refine lv_ishr hx hb dX8_backLine_67 ?_
  refine lv_iadd hx hb dX8_backLine_68 ?_
  refine lv_topi (fun x10_12 ex10_12 => ?_)
  have h := h x10_12 ex10_12
  refine lv_istore (lv' := [(10, .int x10_12), (9, .int x9_11), (8, .int x8_10), (7, .int x7_9), (6, .int x6_8), (5, .int x5_6), (4, .int x4_4), (3, .int x3_2), (0, .ref a_tr), (1, .int v1), (2, .int v2)]) hx hb dX8_backLine_69 hl (by decide) rfl (fun ls hl => ?_)
  refine lv_aload_n hx hb dX8_backLine_71 rfl (lv_at hl 8 rfl) ?_
  refine va_get (D := D) (ci := 8) (v := .ref a_trc) (C := RX8) (T := TX8) (N := 1) hx hb hts iX8 hown hK hP 0 rfl rfl 0 (by decide) lk9 (fun _ h9 => h9) rfl dX8_backLine_72 ?_
  refine lv_iload_n hx hb dX8_backLine_75 rfl (lv_at hl 9 rfl) ?_
  refine lv_iload hx hb dX8_backLine_76 (lv_at hl 3 rfl) ?_
  refine lv_iload hx hb dX8_backLine_78 (lv_at hl 0 rfl) ?_
  refine lv_iadd hx hb dX8_backLine_80 ?_
  obtain ⟨hi_13, h⟩ := h
  refine va_iast hx hb hK hP hD hS 1 0 rfl rfl hi_13 dX8_backLine_81 (fun H_14 locs hP hD hS => ?_)
  have hP : va_P D vwCl [(a_tr, .inr (8, [.ref a_trc])), (a_trc, .inl (cI, 16, .inl (jup tc v1 (x7_9 + x10_12))))] H_14 := hP
  have hD : va_D A [(a_tr, .inr (8, [.ref a_trc])), (a_trc, .inl (cI, 16, .inl (jup tc v1 (x7_9 + x10_12))))] := hD
  refine lv_aload_n hx hb dX8_backLine_82 rfl (lv_at hl 8 rfl) ?_
  refine va_get (D := D) (ci := 8) (v := .ref a_trc) (C := RX8) (T := TX8) (N := 1) hx hb hts iX8 hown hK hP 0 rfl rfl 0 (by decide) lk9 (fun _ h9 => h9) rfl dX8_backLine_83 ?_
  refine lv_iload_n hx hb dX8_backLine_86 rfl (lv_at hl 9 rfl) ?_
  refine lv_iload_n hx hb dX8_backLine_87 rfl (lv_at hl 10 rfl) ?_
  refine lv_iadd hx hb dX8_backLine_88 ?_
  refine lv_iload hx hb dX8_backLine_89 (lv_at hl 2 rfl) ?_
  refine lv_iload hx hb dX8_backLine_91 (lv_at hl 1 rfl) ?_
  refine lv_iadd hx hb dX8_backLine_93 ?_
  obtain ⟨hi_15, h⟩ := h
  refine va_iast hx hb hK hP hD hS 1 0 rfl rfl hi_15 dX8_backLine_94 (fun H_16 locs hP hD hS => ?_)
  have hP : va_P D vwCl [(a_tr, .inr (8, [.ref a_trc])), (a_trc, .inl (cI, 16, .inl (jup (jup tc v1 (x7_9 + x10_12)) (v1 + v2) (x8_10 + x9_11))))] H_16 := hP
  have hD : va_D A [(a_tr, .inr (8, [.ref a_trc])), (a_trc, .inl (cI, 16, .inl (jup (jup tc v1 (x7_9 + x10_12)) (v1 + v2) (x8_10 + x9_11))))] := hD
  refine lv_aload_n hx hb dX8_backLine_95 rfl (lv_at hl 8 rfl) ?_
  refine va_get (D := D) (ci := 8) (v := .ref a_trc) (C := RX8) (T := TX8) (N := 1) hx hb hts iX8 hown hK hP 0 rfl rfl 0 (by decide) lk9 (fun _ h9 => h9) rfl dX8_backLine_96 ?_
  refine lv_iload_n hx hb dX8_backLine_99 rfl (lv_at hl 9 rfl) ?_
  refine lv_iconst (v := 2) hx hb dX8_backLine_100 (by decide) ?_
  refine lv_iload_n hx hb dX8_backLine_101 rfl (lv_at hl 10 rfl) ?_
  refine lv_imul hx hb dX8_backLine_102 ?_
  refine lv_iadd hx hb dX8_backLine_103 ?_
  refine lv_iload hx hb dX8_backLine_104 (lv_at hl 2 rfl) ?_
  refine lv_iload hx hb dX8_backLine_106 (lv_at hl 1 rfl) ?_
  refine lv_isub hx hb dX8_backLine_108 ?_
  obtain ⟨hi_17, h⟩ := h
  refine va_iast hx hb hK hP hD hS 1 0 rfl rfl hi_17 dX8_backLine_109 (fun H_18 locs hP hD hS => ?_)
  have hP : va_P D vwCl [(a_tr, .inr (8, [.ref a_trc])), (a_trc, .inl (cI, 16, .inl (jup (jup (jup tc v1 (x7_9 + x10_12)) (v1 + v2) (x8_10 + x9_11)) (v1 + (2 * v2)) (x8_10 - x9_11))))] H_18 := hP
  have hD : va_D A [(a_tr, .inr (8, [.ref a_trc])), (a_trc, .inl (cI, 16, .inl (jup (jup (jup tc v1 (x7_9 + x10_12)) (v1 + v2) (x8_10 + x9_11)) (v1 + (2 * v2)) (x8_10 - x9_11))))] := hD
  refine lv_aload_n hx hb dX8_backLine_110 rfl (lv_at hl 8 rfl) ?_
  refine va_get (D := D) (ci := 8) (v := .ref a_trc) (C := RX8) (T := TX8) (N := 1) hx hb hts iX8 hown hK hP 0 rfl rfl 0 (by decide) lk9 (fun _ h9 => h9) rfl dX8_backLine_111 ?_
  refine lv_iload_n hx hb dX8_backLine_114 rfl (lv_at hl 9 rfl) ?_
  refine lv_iconst (v := 3) hx hb dX8_backLine_115 (by decide) ?_
  refine lv_iload_n hx hb dX8_backLine_116 rfl (lv_at hl 10 rfl) ?_
  refine lv_imul hx hb dX8_backLine_117 ?_
  refine lv_iadd hx hb dX8_backLine_118 ?_
  refine lv_iload hx hb dX8_backLine_119 (lv_at hl 3 rfl) ?_
  refine lv_iload hx hb dX8_backLine_121 (lv_at hl 0 rfl) ?_
  refine lv_isub hx hb dX8_backLine_123 ?_
  obtain ⟨hi_19, h⟩ := h
  refine va_iast hx hb hK hP hD hS 1 0 rfl rfl hi_19 dX8_backLine_124 (fun H_20 locs hP hD hS => ?_)
  have hP : va_P D vwCl [(a_tr, .inr (8, [.ref a_trc])), (a_trc, .inl (cI, 16, .inl (jup (jup (jup (jup tc v1 (x7_9 + x10_12)) (v1 + v2) (x8_10 + x9_11)) (v1 + (2 * v2)) (x8_10 - x9_11)) (v1 + (3 * v2)) (x7_9 - x10_12))))] H_20 := hP
  have hD : va_D A [(a_tr, .inr (8, [.ref a_trc])), (a_trc, .inl (cI, 16, .inl (jup (jup (jup (jup tc v1 (x7_9 + x10_12)) (v1 + v2) (x8_10 + x9_11)) (v1 + (2 * v2)) (x8_10 - x9_11)) (v1 + (3 * v2)) (x7_9 - x10_12))))] := hD
  exact hret (jup (jup (jup (jup tc v1 (x7_9 + x10_12)) (v1 + v2) (x8_10 + x9_11)) (v1 + (2 * v2)) (x8_10 - x9_11)) (v1 + (3 * v2)) (x7_9 - x10_12)) _ _ _ _ dX8_backLine_125 h hP hD hS
abbrev wd_tr_trc_pll (cI cB : ClassId) (a_tr a_trc a_pll : Nat) (tc : (Nat → Int32)) (lv : (Nat → Int32)) : va_W := [(a_tr, .inr (8, [.ref a_trc])), (a_trc, .inl (cI, 16, .inl tc)), (a_pll, .inl (cI, 1024, .inl lv))]
def wl_X8_back_3 (v2 : Int32) (v3 : Int32) (lv : (Nat → Int32)) (K : (Nat → Int32) → Prop) (X : Int32 → (Nat → Int32) → Prop) : Nat → Int32 → (Nat → Int32) → Prop
  | 0, _, _ => False
  | n + 1, v4, tc => ((16 ≤ v4 → X v4 tc) ∧ (¬ 16 ≤ v4 → vp_in v4 16 ∧ ∀ x5_3 : Int32, x5_3 = jat jm_ORDER v4 → vp_in (v2 + v4) 1024 ∧ wp_X8_factorOf x5_3 v3 (fun (r_5 : Int32) => vp_in r_5 18 ∧ vp_in x5_3 16 ∧ ∀ x4_9 : Int32, x4_9 = v4 + 1 → wl_X8_back_3 v2 v3 lv K X n x4_9 (jup tc x5_3 (((jat lv (v2 + v4)) * (jat jm_BACK r_5)) <<< ((v3 / 6) &&& 31))))))
def wl_X8_back_56 (K : (Nat → Int32) → Prop) (X : Int32 → (Nat → Int32) → Prop) : Nat → Int32 → (Nat → Int32) → Prop
  | 0, _, _ => False
  | n + 1, v4, tc => ((4 ≤ v4 → X v4 tc) ∧ (¬ 4 ≤ v4 → wp_X8_backLine tc (4 * v4) 1 (fun (tc_12 : (Nat → Int32)) => ∀ x4_13 : Int32, x4_13 = v4 + 1 → wl_X8_back_56  K X n x4_13 tc_12)))
def wl_X8_back_80 (K : (Nat → Int32) → Prop) (X : Int32 → (Nat → Int32) → Prop) : Nat → Int32 → (Nat → Int32) → Prop
  | 0, _, _ => False
  | n + 1, v4, tc => ((4 ≤ v4 → X v4 tc) ∧ (¬ 4 ≤ v4 → wp_X8_backLine tc v4 4 (fun (tc_16 : (Nat → Int32)) => ∀ x4_17 : Int32, x4_17 = v4 + 1 → wl_X8_back_80  K X n x4_17 tc_16)))
def wl_X8_back_102 (K : (Nat → Int32) → Prop) (X : Int32 → (Nat → Int32) → Prop) : Nat → Int32 → (Nat → Int32) → Prop
  | 0, _, _ => False
  | n + 1, v4, tc => ((16 ≤ v4 → X v4 tc) ∧ (¬ 16 ≤ v4 → vp_in v4 16 ∧ vp_in v4 16 ∧ ∀ x4_23 : Int32, x4_23 = v4 + 1 → wl_X8_back_102  K X n x4_23 (jup tc v4 (((jat tc v4) + 32) >>> (6 &&& 31)))))
def wp_X8_back (tc : (Nat → Int32)) (lv : (Nat → Int32)) (v2 v3 : Int32) (K : (Nat → Int32) → Prop) : Prop := ∃ k : Nat, wl_X8_back_3 v2 v3 lv K (fun (v4_10 : Int32) (tc_10 : (Nat → Int32)) => ∃ k : Nat, wl_X8_back_56  K (fun (v4_14 : Int32) (tc_14 : (Nat → Int32)) => ∃ k : Nat, wl_X8_back_80  K (fun (v4_18 : Int32) (tc_18 : (Nat → Int32)) => ∃ k : Nat, wl_X8_back_102  K (fun (v4_24 : Int32) (tc_24 : (Nat → Int32)) => K tc_24) k 0 tc_18) k 0 tc_14) k 0 tc_10) k 0 tc
abbrev jw_X8_back : List Cond := .code yX8_back cX8_back 6 none :: jmAll
abbrev rmX8_back : Room := { frames := 1, cells := 0, slots := 0, locals := 30 }
set_option maxHeartbeats 4000000 in
set_option maxRecDepth 100000 in
theorem c_X8_back (l : Launch) (D : va_G) (cI cB : ClassId) (tt : Nat × Nat × Nat) (a_tr a_trc a_pll : Nat) (sz : Nat) (tc : (Nat → Int32)) (lv : (Nat → Int32)) (v2 v3 : Int32) {K : (Nat → Int32) → Prop} (h : wp_X8_back tc lv v2 v3 K) : Met l yX8_back jw_X8_back rmX8_back (va_Pc [.ref a_tr, .ref a_pll, .int v2, .int v3] (jm_Pre D cI cB tt (wd_tr_trc_pll cI cB a_tr a_trc a_pll tc lv) sz)) (va_Qv (fun (u : (Nat → Int32)) => K u) (jm_Post D cI cB (wd_tr_trc_pll cI cB a_tr a_trc a_pll tc lv) sz (fun (u : (Nat → Int32)) => wd_tr_trc_pll cI cB a_tr a_trc a_pll u lv)) (va_A (wd_tr_trc_pll cI cB a_tr a_trc a_pll tc lv) sz)) 0 0 (va_A (wd_tr_trc_pll cI cB a_tr a_trc a_pll tc lv) sz) := by
  refine jm_metV (by decide +kernel) rfl rfl (Nat.le_of_ble_eq_true rfl) ?_
  intro p e s m args below meth c A Q ls C0 hP hD hl hret
  obtain ⟨hx, hb, hml, hr, hown, hts, hlocks, hA, hK, hE⟩ := C0
  have hS : va_S A s.heap s.heap [] := va_S.rf
  have hl : lv_has ls 6 [(0, .ref a_tr), (1, .ref a_pll), (2, .int v2), (3, .int v3)] := hl
  unfold wp_X8_back at h
  have hP : va_P D vwCl [(a_tr, .inr (8, [.ref a_trc])), (a_trc, .inl (cI, 16, .inl tc)), (a_pll, .inl (cI, 1024, .inl lv))] s.heap := hP
  have hD : va_D A [(a_tr, .inr (8, [.ref a_trc])), (a_trc, .inl (cI, 16, .inl tc)), (a_pll, .inl (cI, 1024, .inl lv))] := hD
  have iX8 : ∀ w ∈ wsX80, w ∈ jw_X8_back := fun w h => List.mem_cons_of_mem _ (jm_iX8 w h)
  have lk9 := hts (.fieldLink RX8 9 "IntraMill$Transform" "cells" "[I") (List.mem_cons_of_mem _ mw_134)
  refine lv_iconst (v := 0) hx hb dX8_back_0 (by decide) ?_
  refine lv_istore (lv' := [(4, .int 0), (0, .ref a_tr), (1, .ref a_pll), (2, .int v2), (3, .int v3)]) hx hb dX8_back_1 hl (by decide) rfl (fun ls hl => ?_)
  obtain ⟨n_10, h⟩ := h
  have hL_10 : ∀ (v2 : Int32) (v3 : Int32) (X : Int32 → (Nat → Int32) → Prop), (∀ (v4 : Int32) (tc : (Nat → Int32)), ∀ (H : Heap) (locs : List Loc) (ls : Array Slot), X v4 tc → va_P D vwCl [(a_tr, .inr (8, [.ref a_trc])), (a_trc, .inl (cI, 16, .inl tc)), (a_pll, .inl (cI, 1024, .inl lv))] H → va_D A [(a_tr, .inr (8, [.ref a_trc])), (a_trc, .inl (cI, 16, .inl tc)), (a_pll, .inl (cI, 1024, .inl lv))] → va_S A s.heap H locs → lv_has ls 6 [(0, .ref a_tr), (1, .ref a_pll), (2, .int v2), (3, .int v3), (4, .int v4)] → W p l e rmX8_back s m args below meth c H locs 0 0 Q (F0 m 53 ls [])) → ∀ (n : Nat) (v4 : Int32) (tc : (Nat → Int32)), ∀ (H : Heap) (locs : List Loc) (ls : Array Slot), wl_X8_back_3 v2 v3 lv K X n v4 tc → va_P D vwCl [(a_tr, .inr (8, [.ref a_trc])), (a_trc, .inl (cI, 16, .inl tc)), (a_pll, .inl (cI, 1024, .inl lv))] H → va_D A [(a_tr, .inr (8, [.ref a_trc])), (a_trc, .inl (cI, 16, .inl tc)), (a_pll, .inl (cI, 1024, .inl lv))] → va_S A s.heap H locs → lv_has ls 6 [(0, .ref a_tr), (1, .ref a_pll), (2, .int v2), (3, .int v3), (4, .int v4)] → W p l e rmX8_back s m args below meth c H locs 0 0 Q (F0 m 3 ls []) := by
    intro v2 v3 X hX n
    induction n with
    | zero => intro v4 tc H locs ls h; rw [wl_X8_back_3] at h; exact h.elim
    | succ n ih =>
      intro v4 tc H locs ls h hP hD hS hl
      rw [wl_X8_back_3] at h
      refine lv_iload hx hb dX8_back_3 (lv_at hl 4 rfl) ?_
      refine lv_bipush (v := 16) hx hb dX8_back_5 (by decide) ?_
      refine lv_icmp_ge (tgt := 53) hx hb dX8_back_7 (by decide) (fun c_1 => ?_) (fun c_1 => ?_)
      · have h := h.1 c_1
        exact hX v4 tc H _ _ h hP hD hS (lv_sub hl [0, 1, 2, 3, 4] rfl)
      · have h := h.2 c_1
        refine va_getsN hx hb hE.2.2.1.1 hS hown (va_Nw.use rfl (hE.1 ("IntraMill$Transform", 15, "IntraMill", "ORDER", "[I") (List.mem_of_getElem? (i := 29) rfl))) (fun _ h9 => h9) dX8_back_10 ?_
        refine lv_iload hx hb dX8_back_13 (lv_at hl 4 rfl) ?_
        obtain ⟨hi_2, h⟩ := h
        refine va_ti hx hb hE.2.2.1.2 hS hi_2 rfl dX8_back_15 ?_
        refine lv_topi (fun x5_3 ex5_3 => ?_)
        have h := h x5_3 ex5_3
        refine lv_istore (lv' := [(5, .int x5_3), (0, .ref a_tr), (1, .ref a_pll), (2, .int v2), (3, .int v3), (4, .int v4)]) hx hb dX8_back_16 hl (by decide) rfl (fun ls hl => ?_)
        refine lv_aload_n hx hb dX8_back_18 rfl (lv_at hl 1 rfl) ?_
        refine va_get (D := D) (ci := 8) (v := .ref a_trc) (C := RX8) (T := TX8) (N := 1) hx hb hts iX8 hown hK hP 0 rfl rfl 0 (by decide) lk9 (fun _ h9 => h9) rfl dX8_back_19 ?_
        refine lv_iload hx hb dX8_back_22 (lv_at hl 0 rfl) ?_
        refine lv_aload_n hx hb dX8_back_24 rfl (lv_at hl 2 rfl) ?_
        refine lv_iload_n hx hb dX8_back_25 rfl (lv_at hl 3 rfl) ?_
        refine lv_iload hx hb dX8_back_26 (lv_at hl 5 rfl) ?_
        refine lv_iadd hx hb dX8_back_28 ?_
        obtain ⟨hi_4, h⟩ := h
        refine va_iald hx hb hK hP 2 0 rfl rfl hi_4 dX8_back_29 ?_
        refine va_getsN hx hb hE.2.2.2.1.1 hS hown (va_Nw.use rfl (hE.1 ("IntraMill$Transform", 18, "IntraMill", "BACK_FACTORS", "[I") (List.mem_of_getElem? (i := 30) rfl))) (fun _ h9 => h9) dX8_back_30 ?_
        refine lv_iload hx hb dX8_back_33 (lv_at hl 0 rfl) ?_
        refine lv_iload_n hx hb dX8_back_35 rfl (lv_at hl 4 rfl) ?_
        have hPc := hP.sub (ws' := []) [] rfl
        have hDc := hD.sub (ws' := []) [] (by decide) rfl
        have hFc := va_free (wc := []) hD hS hA [] rfl
        refine jm_calli (wr := [(a_tr, .inr (8, [.ref a_trc])), (a_trc, .inl (cI, 16, .inl tc)), (a_pll, .inl (cI, 1024, .inl lv))]) (va_runS (As := [.int x5_3, .int v3]) (rest := [.ref tt.2.1, .int (jat lv (v2 + v4)), .int x5_3, .ref a_trc]) ⟨hx, hb, hml, hown, hts⟩ (c_X8_factorOf l D cI cB tt H.size x5_3 v3 h) (va_cwS 2 hts (jm_gS mw_469 mw_470 mw_59 mw_471) rfl rfl rfl (by decide +kernel) ⟨Nat.le_of_ble_eq_true rfl, Nat.le_of_ble_eq_true rfl⟩) ⟨jm_blind, jm_pre hK hE hS hPc hDc hFc _⟩ rfl rfl hl.1 rfl (lv_room (Nat.le_of_ble_eq_true rfl)) dX8_back_36 ⟨Nat.zero_le _, Nat.zero_le _⟩) hS hP hD [] [0, 1, 2] rfl rfl (by decide) (by decide) hFc (fun r_5 u_5 H_5 locs hw hP hD hS => ?_)
        have h := hw
        have hP : va_P D vwCl [(a_tr, .inr (8, [.ref a_trc])), (a_trc, .inl (cI, 16, .inl tc)), (a_pll, .inl (cI, 1024, .inl lv))] H_5 := hP.sub [0, 1, 2] rfl
        have hD : va_D A [(a_tr, .inr (8, [.ref a_trc])), (a_trc, .inl (cI, 16, .inl tc)), (a_pll, .inl (cI, 1024, .inl lv))] := hD.sub [0, 1, 2] (by decide) rfl
        obtain ⟨hi_6, h⟩ := h
        refine va_ti hx hb hE.2.2.2.1.2 hS hi_6 rfl dX8_back_39 ?_
        refine lv_imul hx hb dX8_back_40 ?_
        refine lv_iload_n hx hb dX8_back_41 rfl (lv_at hl 4 rfl) ?_
        refine lv_bipush (v := 6) hx hb dX8_back_42 (by decide) ?_
        refine lv_idiv hx hb dX8_back_44 (by decide) ?_
        refine lv_ishl hx hb dX8_back_45 ?_
        obtain ⟨hi_7, h⟩ := h
        refine va_iast hx hb hK hP hD hS 1 0 rfl rfl hi_7 dX8_back_46 (fun H_8 locs hP hD hS => ?_)
        have hP : va_P D vwCl [(a_tr, .inr (8, [.ref a_trc])), (a_trc, .inl (cI, 16, .inl (jup tc x5_3 (((jat lv (v2 + v4)) * (jat jm_BACK r_5)) <<< ((v3 / 6) &&& 31))))), (a_pll, .inl (cI, 1024, .inl lv))] H_8 := hP
        have hD : va_D A [(a_tr, .inr (8, [.ref a_trc])), (a_trc, .inl (cI, 16, .inl (jup tc x5_3 (((jat lv (v2 + v4)) * (jat jm_BACK r_5)) <<< ((v3 / 6) &&& 31))))), (a_pll, .inl (cI, 1024, .inl lv))] := hD
        obtain ⟨x4_9, ex4_9⟩ : ∃ y : Int32, y = v4 + 1 := ⟨_, rfl⟩
        have h := h x4_9 ex4_9
        refine lv_iinc (v := x4_9) (lv' := [(4, .int x4_9), (5, .int x5_3), (0, .ref a_tr), (1, .ref a_pll), (2, .int v2), (3, .int v3)]) hx hb dX8_back_47 hl (k := 5) rfl (by rw [ex4_9]; rfl) (by decide) rfl (fun ls hl => ?_)
        refine lv_goto (tgt := 3) hx hb dX8_back_50 (by decide) ?_
        exact ih x4_9 (jup tc x5_3 (((jat lv (v2 + v4)) * (jat jm_BACK r_5)) <<< ((v3 / 6) &&& 31))) H_8 _ _ h hP hD hS (lv_sub hl [2, 3, 4, 5, 0] rfl)
  refine hL_10 v2 v3 _ ?_ n_10 0 tc s.heap _ _ h hP hD hS (lv_sub hl [1, 2, 3, 4, 0] rfl)
  intro v4_10 tc_10 H locs ls h hP hD hS hl
  refine lv_iconst (v := 0) hx hb dX8_back_53 (by decide) ?_
  refine lv_istore (lv' := [(4, .int 0), (0, .ref a_tr), (1, .ref a_pll), (2, .int v2), (3, .int v3)]) hx hb dX8_back_54 hl (by decide) rfl (fun ls hl => ?_)
  obtain ⟨n_14, h⟩ := h
  have hL_14 : ∀ (v2 : Int32) (v3 : Int32) (X : Int32 → (Nat → Int32) → Prop), (∀ (v4 : Int32) (tc : (Nat → Int32)), ∀ (H : Heap) (locs : List Loc) (ls : Array Slot), X v4 tc → va_P D vwCl [(a_tr, .inr (8, [.ref a_trc])), (a_trc, .inl (cI, 16, .inl tc)), (a_pll, .inl (cI, 1024, .inl lv))] H → va_D A [(a_tr, .inr (8, [.ref a_trc])), (a_trc, .inl (cI, 16, .inl tc)), (a_pll, .inl (cI, 1024, .inl lv))] → va_S A s.heap H locs → lv_has ls 6 [(0, .ref a_tr), (1, .ref a_pll), (2, .int v2), (3, .int v3), (4, .int v4)] → W p l e rmX8_back s m args below meth c H locs 0 0 Q (F0 m 77 ls [])) → ∀ (n : Nat) (v4 : Int32) (tc : (Nat → Int32)), ∀ (H : Heap) (locs : List Loc) (ls : Array Slot), wl_X8_back_56  K X n v4 tc → va_P D vwCl [(a_tr, .inr (8, [.ref a_trc])), (a_trc, .inl (cI, 16, .inl tc)), (a_pll, .inl (cI, 1024, .inl lv))] H → va_D A [(a_tr, .inr (8, [.ref a_trc])), (a_trc, .inl (cI, 16, .inl tc)), (a_pll, .inl (cI, 1024, .inl lv))] → va_S A s.heap H locs → lv_has ls 6 [(0, .ref a_tr), (1, .ref a_pll), (2, .int v2), (3, .int v3), (4, .int v4)] → W p l e rmX8_back s m args below meth c H locs 0 0 Q (F0 m 56 ls []) := by
    intro v2 v3 X hX n
    induction n with
    | zero => intro v4 tc H locs ls h; rw [wl_X8_back_56] at h; exact h.elim
    | succ n ih =>
      intro v4 tc H locs ls h hP hD hS hl
      rw [wl_X8_back_56] at h
      refine lv_iload hx hb dX8_back_56 (lv_at hl 4 rfl) ?_
      refine lv_iconst (v := 4) hx hb dX8_back_58 (by decide) ?_
      refine lv_icmp_ge (tgt := 77) hx hb dX8_back_59 (by decide) (fun c_11 => ?_) (fun c_11 => ?_)
      · have h := h.1 c_11
        exact hX v4 tc H _ _ h hP hD hS (lv_sub hl [0, 1, 2, 3, 4] rfl)
      · have h := h.2 c_11
        refine lv_aload_n hx hb dX8_back_62 rfl (lv_at hl 0 rfl) ?_
        refine lv_iconst (v := 4) hx hb dX8_back_63 (by decide) ?_
        refine lv_iload hx hb dX8_back_64 (lv_at hl 4 rfl) ?_
        refine lv_imul hx hb dX8_back_66 ?_
        refine lv_iconst (v := 1) hx hb dX8_back_67 (by decide) ?_
        have hPc := hP.sub (ws' := [(a_tr, .inr (8, [.ref a_trc])), (a_trc, .inl (cI, 16, .inl tc))]) [0, 1] rfl
        have hDc := hD.sub (ws' := [(a_tr, .inr (8, [.ref a_trc])), (a_trc, .inl (cI, 16, .inl tc))]) [0, 1] (by decide) rfl
        have hFc := va_free (wc := [(a_tr, .inr (8, [.ref a_trc])), (a_trc, .inl (cI, 16, .inl tc))]) hD hS hA [0, 1] rfl
        refine jm_callv (wr := [(a_pll, .inl (cI, 1024, .inl lv))]) (va_runV (As := [.int (4 * v4), .int 1]) (rest := []) ⟨hx, hb, hml, hown, hts⟩ (c_X8_backLine l D cI cB tt a_tr a_trc H.size tc (4 * v4) 1 h) (cwV 2 hts (jm_gV mw_472 mw_474 mw_14 mw_59 mw_475) rfl rfl rfl (by decide +kernel) ⟨Nat.le_of_ble_eq_true rfl, Nat.le_of_ble_eq_true rfl⟩) ⟨jm_blind, va_recv hK hPc (ci := 8) (q0 := 0) rfl rfl, jm_pre hK hE hS hPc hDc hFc _⟩ rfl rfl hl.1 rfl (lv_room (Nat.le_of_ble_eq_true rfl)) dX8_back_68 ⟨Nat.zero_le _, Nat.zero_le _⟩) hS hP hD [0, 1] [2] rfl rfl (by decide) (by decide) hFc (fun u_12 H_12 locs hw hP hD hS => ?_)
        obtain ⟨tc_12, rfl⟩ : ∃ z, z = u_12 := ⟨_, rfl⟩
        have h := hw
        have hP : va_P D vwCl [(a_tr, .inr (8, [.ref a_trc])), (a_trc, .inl (cI, 16, .inl tc_12)), (a_pll, .inl (cI, 1024, .inl lv))] H_12 := hP.sub [1, 2, 0] rfl
        have hD : va_D A [(a_tr, .inr (8, [.ref a_trc])), (a_trc, .inl (cI, 16, .inl tc_12)), (a_pll, .inl (cI, 1024, .inl lv))] := hD.sub [1, 2, 0] (by decide) rfl
        obtain ⟨x4_13, ex4_13⟩ : ∃ y : Int32, y = v4 + 1 := ⟨_, rfl⟩
        have h := h x4_13 ex4_13
        refine lv_iinc (v := x4_13) (lv' := [(4, .int x4_13), (0, .ref a_tr), (1, .ref a_pll), (2, .int v2), (3, .int v3)]) hx hb dX8_back_71 hl (k := 4) rfl (by rw [ex4_13]; rfl) (by decide) rfl (fun ls hl => ?_)
        refine lv_goto (tgt := 56) hx hb dX8_back_74 (by decide) ?_
        exact ih x4_13 tc_12 H_12 _ _ h hP hD hS (lv_sub hl [1, 2, 3, 4, 0] rfl)
  refine hL_14 v2 v3 _ ?_ n_14 0 tc_10 H _ _ h hP hD hS (lv_sub hl [1, 2, 3, 4, 0] rfl)
  intro v4_14 tc_14 H locs ls h hP hD hS hl
  refine lv_iconst (v := 0) hx hb dX8_back_77 (by decide) ?_
  refine lv_istore (lv' := [(4, .int 0), (0, .ref a_tr), (1, .ref a_pll), (2, .int v2), (3, .int v3)]) hx hb dX8_back_78 hl (by decide) rfl (fun ls hl => ?_)
  obtain ⟨n_18, h⟩ := h
  have hL_18 : ∀ (v2 : Int32) (v3 : Int32) (X : Int32 → (Nat → Int32) → Prop), (∀ (v4 : Int32) (tc : (Nat → Int32)), ∀ (H : Heap) (locs : List Loc) (ls : Array Slot), X v4 tc → va_P D vwCl [(a_tr, .inr (8, [.ref a_trc])), (a_trc, .inl (cI, 16, .inl tc)), (a_pll, .inl (cI, 1024, .inl lv))] H → va_D A [(a_tr, .inr (8, [.ref a_trc])), (a_trc, .inl (cI, 16, .inl tc)), (a_pll, .inl (cI, 1024, .inl lv))] → va_S A s.heap H locs → lv_has ls 6 [(0, .ref a_tr), (1, .ref a_pll), (2, .int v2), (3, .int v3), (4, .int v4)] → W p l e rmX8_back s m args below meth c H locs 0 0 Q (F0 m 99 ls [])) → ∀ (n : Nat) (v4 : Int32) (tc : (Nat → Int32)), ∀ (H : Heap) (locs : List Loc) (ls : Array Slot), wl_X8_back_80  K X n v4 tc → va_P D vwCl [(a_tr, .inr (8, [.ref a_trc])), (a_trc, .inl (cI, 16, .inl tc)), (a_pll, .inl (cI, 1024, .inl lv))] H → va_D A [(a_tr, .inr (8, [.ref a_trc])), (a_trc, .inl (cI, 16, .inl tc)), (a_pll, .inl (cI, 1024, .inl lv))] → va_S A s.heap H locs → lv_has ls 6 [(0, .ref a_tr), (1, .ref a_pll), (2, .int v2), (3, .int v3), (4, .int v4)] → W p l e rmX8_back s m args below meth c H locs 0 0 Q (F0 m 80 ls []) := by
    intro v2 v3 X hX n
    induction n with
    | zero => intro v4 tc H locs ls h; rw [wl_X8_back_80] at h; exact h.elim
    | succ n ih =>
      intro v4 tc H locs ls h hP hD hS hl
      rw [wl_X8_back_80] at h
      refine lv_iload hx hb dX8_back_80 (lv_at hl 4 rfl) ?_
      refine lv_iconst (v := 4) hx hb dX8_back_82 (by decide) ?_
      refine lv_icmp_ge (tgt := 99) hx hb dX8_back_83 (by decide) (fun c_15 => ?_) (fun c_15 => ?_)
      · have h := h.1 c_15
        exact hX v4 tc H _ _ h hP hD hS (lv_sub hl [0, 1, 2, 3, 4] rfl)
      · have h := h.2 c_15
        refine lv_aload_n hx hb dX8_back_86 rfl (lv_at hl 0 rfl) ?_
        refine lv_iload hx hb dX8_back_87 (lv_at hl 4 rfl) ?_
        refine lv_iconst (v := 4) hx hb dX8_back_89 (by decide) ?_
        have hPc := hP.sub (ws' := [(a_tr, .inr (8, [.ref a_trc])), (a_trc, .inl (cI, 16, .inl tc))]) [0, 1] rfl
        have hDc := hD.sub (ws' := [(a_tr, .inr (8, [.ref a_trc])), (a_trc, .inl (cI, 16, .inl tc))]) [0, 1] (by decide) rfl
        have hFc := va_free (wc := [(a_tr, .inr (8, [.ref a_trc])), (a_trc, .inl (cI, 16, .inl tc))]) hD hS hA [0, 1] rfl
        refine jm_callv (wr := [(a_pll, .inl (cI, 1024, .inl lv))]) (va_runV (As := [.int v4, .int 4]) (rest := []) ⟨hx, hb, hml, hown, hts⟩ (c_X8_backLine l D cI cB tt a_tr a_trc H.size tc v4 4 h) (cwV 2 hts (jm_gV mw_472 mw_474 mw_14 mw_59 mw_475) rfl rfl rfl (by decide +kernel) ⟨Nat.le_of_ble_eq_true rfl, Nat.le_of_ble_eq_true rfl⟩) ⟨jm_blind, va_recv hK hPc (ci := 8) (q0 := 0) rfl rfl, jm_pre hK hE hS hPc hDc hFc _⟩ rfl rfl hl.1 rfl (lv_room (Nat.le_of_ble_eq_true rfl)) dX8_back_90 ⟨Nat.zero_le _, Nat.zero_le _⟩) hS hP hD [0, 1] [2] rfl rfl (by decide) (by decide) hFc (fun u_16 H_16 locs hw hP hD hS => ?_)
        obtain ⟨tc_16, rfl⟩ : ∃ z, z = u_16 := ⟨_, rfl⟩
        have h := hw
        have hP : va_P D vwCl [(a_tr, .inr (8, [.ref a_trc])), (a_trc, .inl (cI, 16, .inl tc_16)), (a_pll, .inl (cI, 1024, .inl lv))] H_16 := hP.sub [1, 2, 0] rfl
        have hD : va_D A [(a_tr, .inr (8, [.ref a_trc])), (a_trc, .inl (cI, 16, .inl tc_16)), (a_pll, .inl (cI, 1024, .inl lv))] := hD.sub [1, 2, 0] (by decide) rfl
        obtain ⟨x4_17, ex4_17⟩ : ∃ y : Int32, y = v4 + 1 := ⟨_, rfl⟩
        have h := h x4_17 ex4_17
        refine lv_iinc (v := x4_17) (lv' := [(4, .int x4_17), (0, .ref a_tr), (1, .ref a_pll), (2, .int v2), (3, .int v3)]) hx hb dX8_back_93 hl (k := 4) rfl (by rw [ex4_17]; rfl) (by decide) rfl (fun ls hl => ?_)
        refine lv_goto (tgt := 80) hx hb dX8_back_96 (by decide) ?_
        exact ih x4_17 tc_16 H_16 _ _ h hP hD hS (lv_sub hl [1, 2, 3, 4, 0] rfl)
  refine hL_18 v2 v3 _ ?_ n_18 0 tc_14 H _ _ h hP hD hS (lv_sub hl [1, 2, 3, 4, 0] rfl)
  intro v4_18 tc_18 H locs ls h hP hD hS hl
  refine lv_iconst (v := 0) hx hb dX8_back_99 (by decide) ?_
  refine lv_istore (lv' := [(4, .int 0), (0, .ref a_tr), (1, .ref a_pll), (2, .int v2), (3, .int v3)]) hx hb dX8_back_100 hl (by decide) rfl (fun ls hl => ?_)
  obtain ⟨n_24, h⟩ := h
  have hL_24 : ∀ (v2 : Int32) (v3 : Int32) (X : Int32 → (Nat → Int32) → Prop), (∀ (v4 : Int32) (tc : (Nat → Int32)), ∀ (H : Heap) (locs : List Loc) (ls : Array Slot), X v4 tc → va_P D vwCl [(a_tr, .inr (8, [.ref a_trc])), (a_trc, .inl (cI, 16, .inl tc)), (a_pll, .inl (cI, 1024, .inl lv))] H → va_D A [(a_tr, .inr (8, [.ref a_trc])), (a_trc, .inl (cI, 16, .inl tc)), (a_pll, .inl (cI, 1024, .inl lv))] → va_S A s.heap H locs → lv_has ls 6 [(0, .ref a_tr), (1, .ref a_pll), (2, .int v2), (3, .int v3), (4, .int v4)] → W p l e rmX8_back s m args below meth c H locs 0 0 Q (F0 m 135 ls [])) → ∀ (n : Nat) (v4 : Int32) (tc : (Nat → Int32)), ∀ (H : Heap) (locs : List Loc) (ls : Array Slot), wl_X8_back_102  K X n v4 tc → va_P D vwCl [(a_tr, .inr (8, [.ref a_trc])), (a_trc, .inl (cI, 16, .inl tc)), (a_pll, .inl (cI, 1024, .inl lv))] H → va_D A [(a_tr, .inr (8, [.ref a_trc])), (a_trc, .inl (cI, 16, .inl tc)), (a_pll, .inl (cI, 1024, .inl lv))] → va_S A s.heap H locs → lv_has ls 6 [(0, .ref a_tr), (1, .ref a_pll), (2, .int v2), (3, .int v3), (4, .int v4)] → W p l e rmX8_back s m args below meth c H locs 0 0 Q (F0 m 102 ls []) := by
    intro v2 v3 X hX n
    induction n with
    | zero => intro v4 tc H locs ls h; rw [wl_X8_back_102] at h; exact h.elim
    | succ n ih =>
      intro v4 tc H locs ls h hP hD hS hl
      rw [wl_X8_back_102] at h
      refine lv_iload hx hb dX8_back_102 (lv_at hl 4 rfl) ?_
      refine lv_bipush (v := 16) hx hb dX8_back_104 (by decide) ?_
      refine lv_icmp_ge (tgt := 135) hx hb dX8_back_106 (by decide) (fun c_19 => ?_) (fun c_19 => ?_)
      · have h := h.1 c_19
        exact hX v4 tc H _ _ h hP hD hS (lv_sub hl [0, 1, 2, 3, 4] rfl)
      · have h := h.2 c_19
        refine lv_aload_n hx hb dX8_back_109 rfl (lv_at hl 0 rfl) ?_
        refine va_get (D := D) (ci := 8) (v := .ref a_trc) (C := RX8) (T := TX8) (N := 1) hx hb hts iX8 hown hK hP 0 rfl rfl 0 (by decide) lk9 (fun _ h9 => h9) rfl dX8_back_110 ?_
        refine lv_iload hx hb dX8_back_113 (lv_at hl 4 rfl) ?_
        refine lv_aload_n hx hb dX8_back_115 rfl (lv_at hl 0 rfl) ?_
        refine va_get (D := D) (ci := 8) (v := .ref a_trc) (C := RX8) (T := TX8) (N := 1) hx hb hts iX8 hown hK hP 0 rfl rfl 0 (by decide) lk9 (fun _ h9 => h9) rfl dX8_back_116 ?_
        refine lv_iload hx hb dX8_back_119 (lv_at hl 4 rfl) ?_
        obtain ⟨hi_20, h⟩ := h
        refine va_iald hx hb hK hP 1 0 rfl rfl hi_20 dX8_back_121 ?_
        refine lv_bipush (v := 32) hx hb dX8_back_122 (by decide) ?_
        refine lv_iadd hx hb dX8_back_124 ?_
        refine lv_bipush (v := 6) hx hb dX8_back_125 (by decide) ?_
        refine lv_ishr hx hb dX8_back_127 ?_
        obtain ⟨hi_21, h⟩ := h
        refine va_iast hx hb hK hP hD hS 1 0 rfl rfl hi_21 dX8_back_128 (fun H_22 locs hP hD hS => ?_)
        have hP : va_P D vwCl [(a_tr, .inr (8, [.ref a_trc])), (a_trc, .inl (cI, 16, .inl (jup tc v4 (((jat tc v4) + 32) >>> (6 &&& 31))))), (a_pll, .inl (cI, 1024, .inl lv))] H_22 := hP
        have hD : va_D A [(a_tr, .inr (8, [.ref a_trc])), (a_trc, .inl (cI, 16, .inl (jup tc v4 (((jat tc v4) + 32) >>> (6 &&& 31))))), (a_pll, .inl (cI, 1024, .inl lv))] := hD
        obtain ⟨x4_23, ex4_23⟩ : ∃ y : Int32, y = v4 + 1 := ⟨_, rfl⟩
        have h := h x4_23 ex4_23
        refine lv_iinc (v := x4_23) (lv' := [(4, .int x4_23), (0, .ref a_tr), (1, .ref a_pll), (2, .int v2), (3, .int v3)]) hx hb dX8_back_129 hl (k := 4) rfl (by rw [ex4_23]; rfl) (by decide) rfl (fun ls hl => ?_)
        refine lv_goto (tgt := 102) hx hb dX8_back_132 (by decide) ?_
        exact ih x4_23 (jup tc v4 (((jat tc v4) + 32) >>> (6 &&& 31))) H_22 _ _ h hP hD hS (lv_sub hl [1, 2, 3, 4, 0] rfl)
  refine hL_24 v2 v3 _ ?_ n_24 0 tc_18 H _ _ h hP hD hS (lv_sub hl [1, 2, 3, 4, 0] rfl)
  intro v4_24 tc_24 H locs ls h hP hD hS hl
  exact hret (tc_24) _ _ _ _ dX8_back_135 h hP hD hS
def wp_X8_forthLine (tc : (Nat → Int32)) (v1 v2 : Int32) (K : (Nat → Int32) → Prop) : Prop := vp_in v1 16 ∧ ∀ x3_2 : Int32, x3_2 = jat tc v1 → vp_in (v1 + v2) 16 ∧ ∀ x4_4 : Int32, x4_4 = jat tc (v1 + v2) → vp_in (v1 + (2 * v2)) 16 ∧ ∀ x5_6 : Int32, x5_6 = jat tc (v1 + (2 * v2)) → vp_in (v1 + (3 * v2)) 16 ∧ ∀ x6_8 : Int32, x6_8 = jat tc (v1 + (3 * v2)) → ∀ x7_9 : Int32, x7_9 = x3_2 + x6_8 → ∀ x8_10 : Int32, x8_10 = x4_4 + x5_6 → ∀ x9_11 : Int32, x9_11 = x4_4 - x5_6 → ∀ x10_12 : Int32, x10_12 = x3_2 - x6_8 → vp_in v1 16 ∧ vp_in (v1 + v2) 16 ∧ vp_in (v1 + (2 * v2)) 16 ∧ vp_in (v1 + (3 * v2)) 16 ∧ K (jup (jup (jup (jup tc v1 (x7_9 + x8_10)) (v1 + v2) ((2 * x10_12) + x9_11)) (v1 + (2 * v2)) (x7_9 - x8_10)) (v1 + (3 * v2)) (x10_12 - (2 * x9_11)))
abbrev jw_X8_forthLine : List Cond := .code yX8_forthLine cX8_forthLine 11 none :: jmAll
abbrev rmX8_forthLine : Room := { frames := 0, cells := 0, slots := 0, locals := 0 }
set_option maxHeartbeats 4000000 in
set_option maxRecDepth 100000 in
theorem c_X8_forthLine (l : Launch) (D : va_G) (cI cB : ClassId) (tt : Nat × Nat × Nat) (a_tr a_trc : Nat) (sz : Nat) (tc : (Nat → Int32)) (v1 v2 : Int32) {K : (Nat → Int32) → Prop} (h : wp_X8_forthLine tc v1 v2 K) : Met l yX8_forthLine jw_X8_forthLine rmX8_forthLine (va_Pc [.ref a_tr, .int v1, .int v2] (jm_Pre D cI cB tt (wd_tr_trc cI cB a_tr a_trc tc) sz)) (va_Qv (fun (u : (Nat → Int32)) => K u) (jm_Post D cI cB (wd_tr_trc cI cB a_tr a_trc tc) sz (fun (u : (Nat → Int32)) => wd_tr_trc cI cB a_tr a_trc u)) (va_A (wd_tr_trc cI cB a_tr a_trc tc) sz)) 0 0 (va_A (wd_tr_trc cI cB a_tr a_trc tc) sz) := by
  refine jm_metV (by decide +kernel) rfl rfl (Nat.le_of_ble_eq_true rfl) ?_
  intro p e s m args below meth c A Q ls C0 hP hD hl hret
  obtain ⟨hx, hb, hml, hr, hown, hts, hlocks, hA, hK, hE⟩ := C0
  have hS : va_S A s.heap s.heap [] := va_S.rf
  have hl : lv_has ls 11 [(0, .ref a_tr), (1, .int v1), (2, .int v2)] := hl
  unfold wp_X8_forthLine at h
  have hP : va_P D vwCl [(a_tr, .inr (8, [.ref a_trc])), (a_trc, .inl (cI, 16, .inl tc))] s.heap := hP
  have hD : va_D A [(a_tr, .inr (8, [.ref a_trc])), (a_trc, .inl (cI, 16, .inl tc))] := hD
  have iX8 : ∀ w ∈ wsX80, w ∈ jw_X8_forthLine := fun w h => List.mem_cons_of_mem _ (jm_iX8 w h)
  have lk9 := hts (.fieldLink RX8 9 "IntraMill$Transform" "cells" "[I") (List.mem_cons_of_mem _ mw_134)
  refine lv_aload_n hx hb dX8_forthLine_0 rfl (lv_at hl 0 rfl) ?_
  refine va_get (D := D) (ci := 8) (v := .ref a_trc) (C := RX8) (T := TX8) (N := 1) hx hb hts iX8 hown hK hP 0 rfl rfl 0 (by decide) lk9 (fun _ h9 => h9) rfl dX8_forthLine_1 ?_
  refine lv_iload_n hx hb dX8_forthLine_4 rfl (lv_at hl 1 rfl) ?_
  obtain ⟨hi_1, h⟩ := h
  refine va_iald hx hb hK hP 1 0 rfl rfl hi_1 dX8_forthLine_5 ?_
  refine lv_topi (fun x3_2 ex3_2 => ?_)
  have h := h x3_2 ex3_2
  refine lv_istore_n (lv' := [(3, .int x3_2), (0, .ref a_tr), (1, .int v1), (2, .int v2)]) hx hb dX8_forthLine_6 rfl hl (by decide) rfl (fun ls hl => ?_)
  refine lv_aload_n hx hb dX8_forthLine_7 rfl (lv_at hl 1 rfl) ?_
  refine va_get (D := D) (ci := 8) (v := .ref a_trc) (C := RX8) (T := TX8) (N := 1) hx hb hts iX8 hown hK hP 0 rfl rfl 0 (by decide) lk9 (fun _ h9 => h9) rfl dX8_forthLine_8 ?_
  refine lv_iload_n hx hb dX8_forthLine_11 rfl (lv_at hl 2 rfl) ?_
  refine lv_iload_n hx hb dX8_forthLine_12 rfl (lv_at hl 3 rfl) ?_
  refine lv_iadd hx hb dX8_forthLine_13 ?_
  obtain ⟨hi_3, h⟩ := h
  refine va_iald hx hb hK hP 1 0 rfl rfl hi_3 dX8_forthLine_14 ?_
  refine lv_topi (fun x4_4 ex4_4 => ?_)
  have h := h x4_4 ex4_4
  refine lv_istore (lv' := [(4, .int x4_4), (3, .int x3_2), (0, .ref a_tr), (1, .int v1), (2, .int v2)]) hx hb dX8_forthLine_15 hl (by decide) rfl (fun ls hl => ?_)
  refine lv_aload_n hx hb dX8_forthLine_17 rfl (lv_at hl 2 rfl) ?_
  refine va_get (D := D) (ci := 8) (v := .ref a_trc) (C := RX8) (T := TX8) (N := 1) hx hb hts iX8 hown hK hP 0 rfl rfl 0 (by decide) lk9 (fun _ h9 => h9) rfl dX8_forthLine_18 ?_
  refine lv_iload_n hx hb dX8_forthLine_21 rfl (lv_at hl 3 rfl) ?_
  refine lv_iconst (v := 2) hx hb dX8_forthLine_22 (by decide) ?_
  refine lv_iload_n hx hb dX8_forthLine_23 rfl (lv_at hl 4 rfl) ?_
  refine lv_imul hx hb dX8_forthLine_24 ?_
  refine lv_iadd hx hb dX8_forthLine_25 ?_
  obtain ⟨hi_5, h⟩ := h
  refine va_iald hx hb hK hP 1 0 rfl rfl hi_5 dX8_forthLine_26 ?_
  refine lv_topi (fun x5_6 ex5_6 => ?_)
  have h := h x5_6 ex5_6
  refine lv_istore (lv' := [(5, .int x5_6), (4, .int x4_4), (3, .int x3_2), (0, .ref a_tr), (1, .int v1), (2, .int v2)]) hx hb dX8_forthLine_27 hl (by decide) rfl (fun ls hl => ?_)
  refine lv_aload_n hx hb dX8_forthLine_29 rfl (lv_at hl 3 rfl) ?_
  refine va_get (D := D) (ci := 8) (v := .ref a_trc) (C := RX8) (T := TX8) (N := 1) hx hb hts iX8 hown hK hP 0 rfl rfl 0 (by decide) lk9 (fun _ h9 => h9) rfl dX8_forthLine_30 ?_
  refine lv_iload_n hx hb dX8_forthLine_33 rfl (lv_at hl 4 rfl) ?_
  refine lv_iconst (v := 3) hx hb dX8_forthLine_34 (by decide) ?_
  refine lv_iload_n hx hb dX8_forthLine_35 rfl (lv_at hl 5 rfl) ?_
  refine lv_imul hx hb dX8_forthLine_36 ?_
  refine lv_iadd hx hb dX8_forthLine_37 ?_
  obtain ⟨hi_7, h⟩ := h
  refine va_iald hx hb hK hP 1 0 rfl rfl hi_7 dX8_forthLine_38 ?_
  refine lv_topi (fun x6_8 ex6_8 => ?_)
  have h := h x6_8 ex6_8
  refine lv_istore (lv' := [(6, .int x6_8), (5, .int x5_6), (4, .int x4_4), (3, .int x3_2), (0, .ref a_tr), (1, .int v1), (2, .int v2)]) hx hb dX8_forthLine_39 hl (by decide) rfl (fun ls hl => ?_)
  refine lv_iload_n hx hb dX8_forthLine_41 rfl (lv_at hl 3 rfl) ?_
  refine lv_iload hx hb dX8_forthLine_42 (lv_at hl 0 rfl) ?_
  refine lv_iadd hx hb dX8_forthLine_44 ?_
  refine lv_topi (fun x7_9 ex7_9 => ?_)
  have h := h x7_9 ex7_9
  refine lv_istore (lv' := [(7, .int x7_9), (6, .int x6_8), (5, .int x5_6), (4, .int x4_4), (3, .int x3_2), (0, .ref a_tr), (1, .int v1), (2, .int v2)]) hx hb dX8_forthLine_45 hl (by decide) rfl (fun ls hl => ?_)
  refine lv_iload hx hb dX8_forthLine_47 (lv_at hl 3 rfl) ?_
  refine lv_iload hx hb dX8_forthLine_49 (lv_at hl 2 rfl) ?_
  refine lv_iadd hx hb dX8_forthLine_51 ?_
  refine lv_topi (fun x8_10 ex8_10 => ?_)
  have h := h x8_10 ex8_10
  refine lv_istore (lv' := [(8, .int x8_10), (7, .int x7_9), (6, .int x6_8), (5, .int x5_6), (4, .int x4_4), (3, .int x3_2), (0, .ref a_tr), (1, .int v1), (2, .int v2)]) hx hb dX8_forthLine_52 hl (by decide) rfl (fun ls hl => ?_)
  refine lv_iload hx hb dX8_forthLine_54 (lv_at hl 4 rfl) ?_
  refine lv_iload hx hb dX8_forthLine_56 (lv_at hl 3 rfl) ?_
  refine lv_isub hx hb dX8_forthLine_58 ?_
  refine lv_topi (fun x9_11 ex9_11 => ?_)
  have h := h x9_11 ex9_11
  refine lv_istore (lv' := [(9, .int x9_11), (8, .int x8_10), (7, .int x7_9), (6, .int x6_8), (5, .int x5_6), (4, .int x4_4), (3, .int x3_2), (0, .ref a_tr), (1, .int v1), (2, .int v2)]) hx hb dX8_forthLine_59 hl (by decide) rfl (fun ls hl => ?_)
  refine lv_iload_n hx hb dX8_forthLine_61 rfl (lv_at hl 6 rfl) ?_
  refine lv_iload hx hb dX8_forthLine_62 (lv_at hl 3 rfl) ?_
  refine lv_isub hx hb dX8_forthLine_64 ?_
  refine lv_topi (fun x10_12 ex10_12 => ?_)
  have h := h x10_12 ex10_12
  refine lv_istore (lv' := [(10, .int x10_12), (9, .int x9_11), (8, .int x8_10), (7, .int x7_9), (6, .int x6_8), (5, .int x5_6), (4, .int x4_4), (3, .int x3_2), (0, .ref a_tr), (1, .int v1), (2, .int v2)]) hx hb dX8_forthLine_65 hl (by decide) rfl (fun ls hl => ?_)
  refine lv_aload_n hx hb dX8_forthLine_67 rfl (lv_at hl 8 rfl) ?_
  refine va_get (D := D) (ci := 8) (v := .ref a_trc) (C := RX8) (T := TX8) (N := 1) hx hb hts iX8 hown hK hP 0 rfl rfl 0 (by decide) lk9 (fun _ h9 => h9) rfl dX8_forthLine_68 ?_
  refine lv_iload_n hx hb dX8_forthLine_71 rfl (lv_at hl 9 rfl) ?_
  refine lv_iload hx hb dX8_forthLine_72 (lv_at hl 3 rfl) ?_
  refine lv_iload hx hb dX8_forthLine_74 (lv_at hl 2 rfl) ?_
  refine lv_iadd hx hb dX8_forthLine_76 ?_
  obtain ⟨hi_13, h⟩ := h
  refine va_iast hx hb hK hP hD hS 1 0 rfl rfl hi_13 dX8_forthLine_77 (fun H_14 locs hP hD hS => ?_)
  have hP : va_P D vwCl [(a_tr, .inr (8, [.ref a_trc])), (a_trc, .inl (cI, 16, .inl (jup tc v1 (x7_9 + x8_10))))] H_14 := hP
  have hD : va_D A [(a_tr, .inr (8, [.ref a_trc])), (a_trc, .inl (cI, 16, .inl (jup tc v1 (x7_9 + x8_10))))] := hD
  refine lv_aload_n hx hb dX8_forthLine_78 rfl (lv_at hl 8 rfl) ?_
  refine va_get (D := D) (ci := 8) (v := .ref a_trc) (C := RX8) (T := TX8) (N := 1) hx hb hts iX8 hown hK hP 0 rfl rfl 0 (by decide) lk9 (fun _ h9 => h9) rfl dX8_forthLine_79 ?_
  refine lv_iload_n hx hb dX8_forthLine_82 rfl (lv_at hl 9 rfl) ?_
  refine lv_iload_n hx hb dX8_forthLine_83 rfl (lv_at hl 10 rfl) ?_
  refine lv_iadd hx hb dX8_forthLine_84 ?_
  refine lv_iconst (v := 2) hx hb dX8_forthLine_85 (by decide) ?_
  refine lv_iload hx hb dX8_forthLine_86 (lv_at hl 0 rfl) ?_
  refine lv_imul hx hb dX8_forthLine_88 ?_
  refine lv_iload hx hb dX8_forthLine_89 (lv_at hl 1 rfl) ?_
  refine lv_iadd hx hb dX8_forthLine_91 ?_
  obtain ⟨hi_15, h⟩ := h
  refine va_iast hx hb hK hP hD hS 1 0 rfl rfl hi_15 dX8_forthLine_92 (fun H_16 locs hP hD hS => ?_)
  have hP : va_P D vwCl [(a_tr, .inr (8, [.ref a_trc])), (a_trc, .inl (cI, 16, .inl (jup (jup tc v1 (x7_9 + x8_10)) (v1 + v2) ((2 * x10_12) + x9_11))))] H_16 := hP
  have hD : va_D A [(a_tr, .inr (8, [.ref a_trc])), (a_trc, .inl (cI, 16, .inl (jup (jup tc v1 (x7_9 + x8_10)) (v1 + v2) ((2 * x10_12) + x9_11))))] := hD
  refine lv_aload_n hx hb dX8_forthLine_93 rfl (lv_at hl 8 rfl) ?_
  refine va_get (D := D) (ci := 8) (v := .ref a_trc) (C := RX8) (T := TX8) (N := 1) hx hb hts iX8 hown hK hP 0 rfl rfl 0 (by decide) lk9 (fun _ h9 => h9) rfl dX8_forthLine_94 ?_
  refine lv_iload_n hx hb dX8_forthLine_97 rfl (lv_at hl 9 rfl) ?_
  refine lv_iconst (v := 2) hx hb dX8_forthLine_98 (by decide) ?_
  refine lv_iload_n hx hb dX8_forthLine_99 rfl (lv_at hl 10 rfl) ?_
  refine lv_imul hx hb dX8_forthLine_100 ?_
  refine lv_iadd hx hb dX8_forthLine_101 ?_
  refine lv_iload hx hb dX8_forthLine_102 (lv_at hl 3 rfl) ?_
  refine lv_iload hx hb dX8_forthLine_104 (lv_at hl 2 rfl) ?_
  refine lv_isub hx hb dX8_forthLine_106 ?_
  obtain ⟨hi_17, h⟩ := h
  refine va_iast hx hb hK hP hD hS 1 0 rfl rfl hi_17 dX8_forthLine_107 (fun H_18 locs hP hD hS => ?_)
  have hP : va_P D vwCl [(a_tr, .inr (8, [.ref a_trc])), (a_trc, .inl (cI, 16, .inl (jup (jup (jup tc v1 (x7_9 + x8_10)) (v1 + v2) ((2 * x10_12) + x9_11)) (v1 + (2 * v2)) (x7_9 - x8_10))))] H_18 := hP
  have hD : va_D A [(a_tr, .inr (8, [.ref a_trc])), (a_trc, .inl (cI, 16, .inl (jup (jup (jup tc v1 (x7_9 + x8_10)) (v1 + v2) ((2 * x10_12) + x9_11)) (v1 + (2 * v2)) (x7_9 - x8_10))))] := hD
  refine lv_aload_n hx hb dX8_forthLine_108 rfl (lv_at hl 8 rfl) ?_
  refine va_get (D := D) (ci := 8) (v := .ref a_trc) (C := RX8) (T := TX8) (N := 1) hx hb hts iX8 hown hK hP 0 rfl rfl 0 (by decide) lk9 (fun _ h9 => h9) rfl dX8_forthLine_109 ?_
  refine lv_iload_n hx hb dX8_forthLine_112 rfl (lv_at hl 9 rfl) ?_
  refine lv_iconst (v := 3) hx hb dX8_forthLine_113 (by decide) ?_
  refine lv_iload_n hx hb dX8_forthLine_114 rfl (lv_at hl 10 rfl) ?_
  refine lv_imul hx hb dX8_forthLine_115 ?_
  refine lv_iadd hx hb dX8_forthLine_116 ?_
  refine lv_iload hx hb dX8_forthLine_117 (lv_at hl 0 rfl) ?_
  refine lv_iconst (v := 2) hx hb dX8_forthLine_119 (by decide) ?_
  refine lv_iload hx hb dX8_forthLine_120 (lv_at hl 1 rfl) ?_
  refine lv_imul hx hb dX8_forthLine_122 ?_
  refine lv_isub hx hb dX8_forthLine_123 ?_
  obtain ⟨hi_19, h⟩ := h
  refine va_iast hx hb hK hP hD hS 1 0 rfl rfl hi_19 dX8_forthLine_124 (fun H_20 locs hP hD hS => ?_)
  have hP : va_P D vwCl [(a_tr, .inr (8, [.ref a_trc])), (a_trc, .inl (cI, 16, .inl (jup (jup (jup (jup tc v1 (x7_9 + x8_10)) (v1 + v2) ((2 * x10_12) + x9_11)) (v1 + (2 * v2)) (x7_9 - x8_10)) (v1 + (3 * v2)) (x10_12 - (2 * x9_11)))))] H_20 := hP
  have hD : va_D A [(a_tr, .inr (8, [.ref a_trc])), (a_trc, .inl (cI, 16, .inl (jup (jup (jup (jup tc v1 (x7_9 + x8_10)) (v1 + v2) ((2 * x10_12) + x9_11)) (v1 + (2 * v2)) (x7_9 - x8_10)) (v1 + (3 * v2)) (x10_12 - (2 * x9_11)))))] := hD
  exact hret (jup (jup (jup (jup tc v1 (x7_9 + x8_10)) (v1 + v2) ((2 * x10_12) + x9_11)) (v1 + (2 * v2)) (x7_9 - x8_10)) (v1 + (3 * v2)) (x10_12 - (2 * x9_11))) _ _ _ _ dX8_forthLine_125 h hP hD hS
def wl_X8_forth_3 (K : (Nat → Int32) → (Nat → Int32) → Prop) (X : Int32 → (Nat → Int32) → Prop) : Nat → Int32 → (Nat → Int32) → Prop
  | 0, _, _ => False
  | n + 1, v4, tc => ((4 ≤ v4 → X v4 tc) ∧ (¬ 4 ≤ v4 → wp_X8_forthLine tc (4 * v4) 1 (fun (tc_2 : (Nat → Int32)) => ∀ x4_3 : Int32, x4_3 = v4 + 1 → wl_X8_forth_3  K X n x4_3 tc_2)))
def wl_X8_forth_27 (K : (Nat → Int32) → (Nat → Int32) → Prop) (X : Int32 → (Nat → Int32) → Prop) : Nat → Int32 → (Nat → Int32) → Prop
  | 0, _, _ => False
  | n + 1, v4, tc => ((4 ≤ v4 → X v4 tc) ∧ (¬ 4 ≤ v4 → wp_X8_forthLine tc v4 4 (fun (tc_6 : (Nat → Int32)) => ∀ x4_7 : Int32, x4_7 = v4 + 1 → wl_X8_forth_27  K X n x4_7 tc_6)))
def wl_X8_forth_66 (v2 : Int32) (v3 : Int32) (v4 : Int32) (v5 : Int32) (tc : (Nat → Int32)) (K : (Nat → Int32) → (Nat → Int32) → Prop) (X : Int32 → (Nat → Int32) → Prop) : Nat → Int32 → (Nat → Int32) → Prop
  | 0, _, _ => False
  | n + 1, v6, lv => ((16 ≤ v6 → X v6 lv) ∧ (¬ 16 ≤ v6 → vp_in v6 16 ∧ ∀ x7_13 : Int32, x7_13 = jat jm_ORDER v6 → vp_in x7_13 16 ∧ ∀ x8_15 : Int32, x8_15 = jat tc x7_13 → wp_X8_factorOf x7_13 v3 (fun (r_16 : Int32) => vp_in r_16 18 ∧ ∀ x9_18 : Int32, x9_18 = (((jabs x8_15) * (jat jm_FORTH r_16)) + v5) >>> (v4 &&& 31) → jn1 (fun (t0_19 : Int32) => vp_in (v2 + v6) 1024 ∧ ∀ x6_22 : Int32, x6_22 = v6 + 1 → wl_X8_forth_66 v2 v3 v4 v5 tc K X n x6_22 (jup lv (v2 + v6) t0_19)) (fun J_19 => ((0 ≤ x8_15 → J_19 x9_18) ∧ (¬ 0 ≤ x8_15 → J_19 (-x9_18)))))))
def wp_X8_forth (tc : (Nat → Int32)) (lv : (Nat → Int32)) (v2 v3 : Int32) (K : (Nat → Int32) → (Nat → Int32) → Prop) : Prop := ∃ k : Nat, wl_X8_forth_3  K (fun (v4_4 : Int32) (tc_4 : (Nat → Int32)) => ∃ k : Nat, wl_X8_forth_27  K (fun (v4_8 : Int32) (tc_8 : (Nat → Int32)) => ∀ x4_9 : Int32, x4_9 = 15 + (v3 / 6) → ∀ x5_10 : Int32, x5_10 = (1 <<< (x4_9 &&& 31)) / 3 → ∃ k : Nat, wl_X8_forth_66 v2 v3 x4_9 x5_10 tc_8 K (fun (v6_24 : Int32) (lv_24 : (Nat → Int32)) => K tc_8 lv_24) k 0 lv) k 0 tc_4) k 0 tc
abbrev jw_X8_forth : List Cond := .code yX8_forth cX8_forth 10 none :: jmAll
abbrev rmX8_forth : Room := { frames := 1, cells := 0, slots := 0, locals := 30 }
set_option maxHeartbeats 4000000 in
set_option maxRecDepth 100000 in
theorem c_X8_forth (l : Launch) (D : va_G) (cI cB : ClassId) (tt : Nat × Nat × Nat) (a_tr a_trc a_pll : Nat) (sz : Nat) (tc : (Nat → Int32)) (lv : (Nat → Int32)) (v2 v3 : Int32) {K : (Nat → Int32) → (Nat → Int32) → Prop} (h : wp_X8_forth tc lv v2 v3 K) : Met l yX8_forth jw_X8_forth rmX8_forth (va_Pc [.ref a_tr, .ref a_pll, .int v2, .int v3] (jm_Pre D cI cB tt (wd_tr_trc_pll cI cB a_tr a_trc a_pll tc lv) sz)) (va_Qv (fun (u : (Nat → Int32) × (Nat → Int32)) => pr2 K u) (jm_Post D cI cB (wd_tr_trc_pll cI cB a_tr a_trc a_pll tc lv) sz (fun (u : (Nat → Int32) × (Nat → Int32)) => wd_tr_trc_pll cI cB a_tr a_trc a_pll u.1 u.2)) (va_A (wd_tr_trc_pll cI cB a_tr a_trc a_pll tc lv) sz)) 0 0 (va_A (wd_tr_trc_pll cI cB a_tr a_trc a_pll tc lv) sz) := by
  refine jm_metV (by decide +kernel) rfl rfl (Nat.le_of_ble_eq_true rfl) ?_
  intro p e s m args below meth c A Q ls C0 hP hD hl hret
  obtain ⟨hx, hb, hml, hr, hown, hts, hlocks, hA, hK, hE⟩ := C0
  have hS : va_S A s.heap s.heap [] := va_S.rf
  have hl : lv_has ls 10 [(0, .ref a_tr), (1, .ref a_pll), (2, .int v2), (3, .int v3)] := hl
  unfold wp_X8_forth at h
  have hP : va_P D vwCl [(a_tr, .inr (8, [.ref a_trc])), (a_trc, .inl (cI, 16, .inl tc)), (a_pll, .inl (cI, 1024, .inl lv))] s.heap := hP
  have hD : va_D A [(a_tr, .inr (8, [.ref a_trc])), (a_trc, .inl (cI, 16, .inl tc)), (a_pll, .inl (cI, 1024, .inl lv))] := hD
  have iX8 : ∀ w ∈ wsX80, w ∈ jw_X8_forth := fun w h => List.mem_cons_of_mem _ (jm_iX8 w h)
  have lk9 := hts (.fieldLink RX8 9 "IntraMill$Transform" "cells" "[I") (List.mem_cons_of_mem _ mw_134)
  refine lv_iconst (v := 0) hx hb dX8_forth_0 (by decide) ?_
  refine lv_istore (lv' := [(4, .int 0), (0, .ref a_tr), (1, .ref a_pll), (2, .int v2), (3, .int v3)]) hx hb dX8_forth_1 hl (by decide) rfl (fun ls hl => ?_)
  obtain ⟨n_4, h⟩ := h
  have hL_4 : ∀ (v2 : Int32) (v3 : Int32) (lv : (Nat → Int32)) (X : Int32 → (Nat → Int32) → Prop), (∀ (v4 : Int32) (tc : (Nat → Int32)), ∀ (H : Heap) (locs : List Loc) (ls : Array Slot), X v4 tc → va_P D vwCl [(a_tr, .inr (8, [.ref a_trc])), (a_trc, .inl (cI, 16, .inl tc)), (a_pll, .inl (cI, 1024, .inl lv))] H → va_D A [(a_tr, .inr (8, [.ref a_trc])), (a_trc, .inl (cI, 16, .inl tc)), (a_pll, .inl (cI, 1024, .inl lv))] → va_S A s.heap H locs → lv_has ls 10 [(0, .ref a_tr), (1, .ref a_pll), (2, .int v2), (3, .int v3), (4, .int v4)] → W p l e rmX8_forth s m args below meth c H locs 0 0 Q (F0 m 24 ls [])) → ∀ (n : Nat) (v4 : Int32) (tc : (Nat → Int32)), ∀ (H : Heap) (locs : List Loc) (ls : Array Slot), wl_X8_forth_3  K X n v4 tc → va_P D vwCl [(a_tr, .inr (8, [.ref a_trc])), (a_trc, .inl (cI, 16, .inl tc)), (a_pll, .inl (cI, 1024, .inl lv))] H → va_D A [(a_tr, .inr (8, [.ref a_trc])), (a_trc, .inl (cI, 16, .inl tc)), (a_pll, .inl (cI, 1024, .inl lv))] → va_S A s.heap H locs → lv_has ls 10 [(0, .ref a_tr), (1, .ref a_pll), (2, .int v2), (3, .int v3), (4, .int v4)] → W p l e rmX8_forth s m args below meth c H locs 0 0 Q (F0 m 3 ls []) := by
    intro v2 v3 lv X hX n
    induction n with
    | zero => intro v4 tc H locs ls h; rw [wl_X8_forth_3] at h; exact h.elim
    | succ n ih =>
      intro v4 tc H locs ls h hP hD hS hl
      rw [wl_X8_forth_3] at h
      refine lv_iload hx hb dX8_forth_3 (lv_at hl 4 rfl) ?_
      refine lv_iconst (v := 4) hx hb dX8_forth_5 (by decide) ?_
      refine lv_icmp_ge (tgt := 24) hx hb dX8_forth_6 (by decide) (fun c_1 => ?_) (fun c_1 => ?_)
      · have h := h.1 c_1
        exact hX v4 tc H _ _ h hP hD hS (lv_sub hl [0, 1, 2, 3, 4] rfl)
      · have h := h.2 c_1
        refine lv_aload_n hx hb dX8_forth_9 rfl (lv_at hl 0 rfl) ?_
        refine lv_iconst (v := 4) hx hb dX8_forth_10 (by decide) ?_
        refine lv_iload hx hb dX8_forth_11 (lv_at hl 4 rfl) ?_
        refine lv_imul hx hb dX8_forth_13 ?_
        refine lv_iconst (v := 1) hx hb dX8_forth_14 (by decide) ?_
        have hPc := hP.sub (ws' := [(a_tr, .inr (8, [.ref a_trc])), (a_trc, .inl (cI, 16, .inl tc))]) [0, 1] rfl
        have hDc := hD.sub (ws' := [(a_tr, .inr (8, [.ref a_trc])), (a_trc, .inl (cI, 16, .inl tc))]) [0, 1] (by decide) rfl
        have hFc := va_free (wc := [(a_tr, .inr (8, [.ref a_trc])), (a_trc, .inl (cI, 16, .inl tc))]) hD hS hA [0, 1] rfl
        refine jm_callv (wr := [(a_pll, .inl (cI, 1024, .inl lv))]) (va_runV (As := [.int (4 * v4), .int 1]) (rest := []) ⟨hx, hb, hml, hown, hts⟩ (c_X8_forthLine l D cI cB tt a_tr a_trc H.size tc (4 * v4) 1 h) (cwV 2 hts (jm_gV mw_627 mw_629 mw_20 mw_59 mw_630) rfl rfl rfl (by decide +kernel) ⟨Nat.le_of_ble_eq_true rfl, Nat.le_of_ble_eq_true rfl⟩) ⟨jm_blind, va_recv hK hPc (ci := 8) (q0 := 0) rfl rfl, jm_pre hK hE hS hPc hDc hFc _⟩ rfl rfl hl.1 rfl (lv_room (Nat.le_of_ble_eq_true rfl)) dX8_forth_15 ⟨Nat.zero_le _, Nat.zero_le _⟩) hS hP hD [0, 1] [2] rfl rfl (by decide) (by decide) hFc (fun u_2 H_2 locs hw hP hD hS => ?_)
        obtain ⟨tc_2, rfl⟩ : ∃ z, z = u_2 := ⟨_, rfl⟩
        have h := hw
        have hP : va_P D vwCl [(a_tr, .inr (8, [.ref a_trc])), (a_trc, .inl (cI, 16, .inl tc_2)), (a_pll, .inl (cI, 1024, .inl lv))] H_2 := hP.sub [1, 2, 0] rfl
        have hD : va_D A [(a_tr, .inr (8, [.ref a_trc])), (a_trc, .inl (cI, 16, .inl tc_2)), (a_pll, .inl (cI, 1024, .inl lv))] := hD.sub [1, 2, 0] (by decide) rfl
        obtain ⟨x4_3, ex4_3⟩ : ∃ y : Int32, y = v4 + 1 := ⟨_, rfl⟩
        have h := h x4_3 ex4_3
        refine lv_iinc (v := x4_3) (lv' := [(4, .int x4_3), (0, .ref a_tr), (1, .ref a_pll), (2, .int v2), (3, .int v3)]) hx hb dX8_forth_18 hl (k := 4) rfl (by rw [ex4_3]; rfl) (by decide) rfl (fun ls hl => ?_)
        refine lv_goto (tgt := 3) hx hb dX8_forth_21 (by decide) ?_
        exact ih x4_3 tc_2 H_2 _ _ h hP hD hS (lv_sub hl [1, 2, 3, 4, 0] rfl)
  refine hL_4 v2 v3 lv _ ?_ n_4 0 tc s.heap _ _ h hP hD hS (lv_sub hl [1, 2, 3, 4, 0] rfl)
  intro v4_4 tc_4 H locs ls h hP hD hS hl
  refine lv_iconst (v := 0) hx hb dX8_forth_24 (by decide) ?_
  refine lv_istore (lv' := [(4, .int 0), (0, .ref a_tr), (1, .ref a_pll), (2, .int v2), (3, .int v3)]) hx hb dX8_forth_25 hl (by decide) rfl (fun ls hl => ?_)
  obtain ⟨n_8, h⟩ := h
  have hL_8 : ∀ (v2 : Int32) (v3 : Int32) (lv : (Nat → Int32)) (X : Int32 → (Nat → Int32) → Prop), (∀ (v4 : Int32) (tc : (Nat → Int32)), ∀ (H : Heap) (locs : List Loc) (ls : Array Slot), X v4 tc → va_P D vwCl [(a_tr, .inr (8, [.ref a_trc])), (a_trc, .inl (cI, 16, .inl tc)), (a_pll, .inl (cI, 1024, .inl lv))] H → va_D A [(a_tr, .inr (8, [.ref a_trc])), (a_trc, .inl (cI, 16, .inl tc)), (a_pll, .inl (cI, 1024, .inl lv))] → va_S A s.heap H locs → lv_has ls 10 [(0, .ref a_tr), (1, .ref a_pll), (2, .int v2), (3, .int v3), (4, .int v4)] → W p l e rmX8_forth s m args below meth c H locs 0 0 Q (F0 m 46 ls [])) → ∀ (n : Nat) (v4 : Int32) (tc : (Nat → Int32)), ∀ (H : Heap) (locs : List Loc) (ls : Array Slot), wl_X8_forth_27  K X n v4 tc → va_P D vwCl [(a_tr, .inr (8, [.ref a_trc])), (a_trc, .inl (cI, 16, .inl tc)), (a_pll, .inl (cI, 1024, .inl lv))] H → va_D A [(a_tr, .inr (8, [.ref a_trc])), (a_trc, .inl (cI, 16, .inl tc)), (a_pll, .inl (cI, 1024, .inl lv))] → va_S A s.heap H locs → lv_has ls 10 [(0, .ref a_tr), (1, .ref a_pll), (2, .int v2), (3, .int v3), (4, .int v4)] → W p l e rmX8_forth s m args below meth c H locs 0 0 Q (F0 m 27 ls []) := by
    intro v2 v3 lv X hX n
    induction n with
    | zero => intro v4 tc H locs ls h; rw [wl_X8_forth_27] at h; exact h.elim
    | succ n ih =>
      intro v4 tc H locs ls h hP hD hS hl
      rw [wl_X8_forth_27] at h
      refine lv_iload hx hb dX8_forth_27 (lv_at hl 4 rfl) ?_
      refine lv_iconst (v := 4) hx hb dX8_forth_29 (by decide) ?_
      refine lv_icmp_ge (tgt := 46) hx hb dX8_forth_30 (by decide) (fun c_5 => ?_) (fun c_5 => ?_)
      · have h := h.1 c_5
        exact hX v4 tc H _ _ h hP hD hS (lv_sub hl [0, 1, 2, 3, 4] rfl)
      · have h := h.2 c_5
        refine lv_aload_n hx hb dX8_forth_33 rfl (lv_at hl 0 rfl) ?_
        refine lv_iload hx hb dX8_forth_34 (lv_at hl 4 rfl) ?_
        refine lv_iconst (v := 4) hx hb dX8_forth_36 (by decide) ?_
        have hPc := hP.sub (ws' := [(a_tr, .inr (8, [.ref a_trc])), (a_trc, .inl (cI, 16, .inl tc))]) [0, 1] rfl
        have hDc := hD.sub (ws' := [(a_tr, .inr (8, [.ref a_trc])), (a_trc, .inl (cI, 16, .inl tc))]) [0, 1] (by decide) rfl
        have hFc := va_free (wc := [(a_tr, .inr (8, [.ref a_trc])), (a_trc, .inl (cI, 16, .inl tc))]) hD hS hA [0, 1] rfl
        refine jm_callv (wr := [(a_pll, .inl (cI, 1024, .inl lv))]) (va_runV (As := [.int v4, .int 4]) (rest := []) ⟨hx, hb, hml, hown, hts⟩ (c_X8_forthLine l D cI cB tt a_tr a_trc H.size tc v4 4 h) (cwV 2 hts (jm_gV mw_627 mw_629 mw_20 mw_59 mw_630) rfl rfl rfl (by decide +kernel) ⟨Nat.le_of_ble_eq_true rfl, Nat.le_of_ble_eq_true rfl⟩) ⟨jm_blind, va_recv hK hPc (ci := 8) (q0 := 0) rfl rfl, jm_pre hK hE hS hPc hDc hFc _⟩ rfl rfl hl.1 rfl (lv_room (Nat.le_of_ble_eq_true rfl)) dX8_forth_37 ⟨Nat.zero_le _, Nat.zero_le _⟩) hS hP hD [0, 1] [2] rfl rfl (by decide) (by decide) hFc (fun u_6 H_6 locs hw hP hD hS => ?_)
        obtain ⟨tc_6, rfl⟩ : ∃ z, z = u_6 := ⟨_, rfl⟩
        have h := hw
        have hP : va_P D vwCl [(a_tr, .inr (8, [.ref a_trc])), (a_trc, .inl (cI, 16, .inl tc_6)), (a_pll, .inl (cI, 1024, .inl lv))] H_6 := hP.sub [1, 2, 0] rfl
        have hD : va_D A [(a_tr, .inr (8, [.ref a_trc])), (a_trc, .inl (cI, 16, .inl tc_6)), (a_pll, .inl (cI, 1024, .inl lv))] := hD.sub [1, 2, 0] (by decide) rfl
        obtain ⟨x4_7, ex4_7⟩ : ∃ y : Int32, y = v4 + 1 := ⟨_, rfl⟩
        have h := h x4_7 ex4_7
        refine lv_iinc (v := x4_7) (lv' := [(4, .int x4_7), (0, .ref a_tr), (1, .ref a_pll), (2, .int v2), (3, .int v3)]) hx hb dX8_forth_40 hl (k := 4) rfl (by rw [ex4_7]; rfl) (by decide) rfl (fun ls hl => ?_)
        refine lv_goto (tgt := 27) hx hb dX8_forth_43 (by decide) ?_
        exact ih x4_7 tc_6 H_6 _ _ h hP hD hS (lv_sub hl [1, 2, 3, 4, 0] rfl)
  refine hL_8 v2 v3 lv _ ?_ n_8 0 tc_4 H _ _ h hP hD hS (lv_sub hl [1, 2, 3, 4, 0] rfl)
  intro v4_8 tc_8 H locs ls h hP hD hS hl
  refine lv_bipush (v := 15) hx hb dX8_forth_46 (by decide) ?_
  refine lv_iload_n hx hb dX8_forth_48 rfl (lv_at hl 3 rfl) ?_
  refine lv_bipush (v := 6) hx hb dX8_forth_49 (by decide) ?_
  refine lv_idiv hx hb dX8_forth_51 (by decide) ?_
  refine lv_iadd hx hb dX8_forth_52 ?_
  refine lv_topi (fun x4_9 ex4_9 => ?_)
  have h := h x4_9 ex4_9
  refine lv_istore (lv' := [(4, .int x4_9), (0, .ref a_tr), (1, .ref a_pll), (2, .int v2), (3, .int v3)]) hx hb dX8_forth_53 hl (by decide) rfl (fun ls hl => ?_)
  refine lv_iconst (v := 1) hx hb dX8_forth_55 (by decide) ?_
  refine lv_iload hx hb dX8_forth_56 (lv_at hl 0 rfl) ?_
  refine lv_ishl hx hb dX8_forth_58 ?_
  refine lv_iconst (v := 3) hx hb dX8_forth_59 (by decide) ?_
  refine lv_idiv hx hb dX8_forth_60 (by decide) ?_
  refine lv_topi (fun x5_10 ex5_10 => ?_)
  have h := h x5_10 ex5_10
  refine lv_istore (lv' := [(5, .int x5_10), (4, .int x4_9), (0, .ref a_tr), (1, .ref a_pll), (2, .int v2), (3, .int v3)]) hx hb dX8_forth_61 hl (by decide) rfl (fun ls hl => ?_)
  refine lv_iconst (v := 0) hx hb dX8_forth_63 (by decide) ?_
  refine lv_istore (lv' := [(6, .int 0), (5, .int x5_10), (4, .int x4_9), (0, .ref a_tr), (1, .ref a_pll), (2, .int v2), (3, .int v3)]) hx hb dX8_forth_64 hl (by decide) rfl (fun ls hl => ?_)
  obtain ⟨n_24, h⟩ := h
  have hL_24 : ∀ (v2 : Int32) (v3 : Int32) (v4 : Int32) (v5 : Int32) (tc : (Nat → Int32)) (X : Int32 → (Nat → Int32) → Prop), (∀ (v6 : Int32) (lv : (Nat → Int32)), ∀ (H : Heap) (locs : List Loc) (ls : Array Slot), X v6 lv → va_P D vwCl [(a_tr, .inr (8, [.ref a_trc])), (a_trc, .inl (cI, 16, .inl tc)), (a_pll, .inl (cI, 1024, .inl lv))] H → va_D A [(a_tr, .inr (8, [.ref a_trc])), (a_trc, .inl (cI, 16, .inl tc)), (a_pll, .inl (cI, 1024, .inl lv))] → va_S A s.heap H locs → lv_has ls 10 [(0, .ref a_tr), (1, .ref a_pll), (2, .int v2), (3, .int v3), (4, .int v4), (5, .int v5), (6, .int v6)] → W p l e rmX8_forth s m args below meth c H locs 0 0 Q (F0 m 139 ls [])) → ∀ (n : Nat) (v6 : Int32) (lv : (Nat → Int32)), ∀ (H : Heap) (locs : List Loc) (ls : Array Slot), wl_X8_forth_66 v2 v3 v4 v5 tc K X n v6 lv → va_P D vwCl [(a_tr, .inr (8, [.ref a_trc])), (a_trc, .inl (cI, 16, .inl tc)), (a_pll, .inl (cI, 1024, .inl lv))] H → va_D A [(a_tr, .inr (8, [.ref a_trc])), (a_trc, .inl (cI, 16, .inl tc)), (a_pll, .inl (cI, 1024, .inl lv))] → va_S A s.heap H locs → lv_has ls 10 [(0, .ref a_tr), (1, .ref a_pll), (2, .int v2), (3, .int v3), (4, .int v4), (5, .int v5), (6, .int v6)] → W p l e rmX8_forth s m args below meth c H locs 0 0 Q (F0 m 66 ls []) := by
    intro v2 v3 v4 v5 tc X hX n
    induction n with
    | zero => intro v6 lv H locs ls h; rw [wl_X8_forth_66] at h; exact h.elim
    | succ n ih =>
      intro v6 lv H locs ls h hP hD hS hl
      rw [wl_X8_forth_66] at h
      refine lv_iload hx hb dX8_forth_66 (lv_at hl 6 rfl) ?_
      refine lv_bipush (v := 16) hx hb dX8_forth_68 (by decide) ?_
      refine lv_icmp_ge (tgt := 139) hx hb dX8_forth_70 (by decide) (fun c_11 => ?_) (fun c_11 => ?_)
      · have h := h.1 c_11
        exact hX v6 lv H _ _ h hP hD hS (lv_sub hl [0, 1, 2, 3, 4, 5, 6] rfl)
      · have h := h.2 c_11
        refine va_getsN hx hb hE.2.2.1.1 hS hown (va_Nw.use rfl (hE.1 ("IntraMill$Transform", 15, "IntraMill", "ORDER", "[I") (List.mem_of_getElem? (i := 29) rfl))) (fun _ h9 => h9) dX8_forth_73 ?_
        refine lv_iload hx hb dX8_forth_76 (lv_at hl 6 rfl) ?_
        obtain ⟨hi_12, h⟩ := h
        refine va_ti hx hb hE.2.2.1.2 hS hi_12 rfl dX8_forth_78 ?_
        refine lv_topi (fun x7_13 ex7_13 => ?_)
        have h := h x7_13 ex7_13
        refine lv_istore (lv' := [(7, .int x7_13), (0, .ref a_tr), (1, .ref a_pll), (2, .int v2), (3, .int v3), (4, .int v4), (5, .int v5), (6, .int v6)]) hx hb dX8_forth_79 hl (by decide) rfl (fun ls hl => ?_)
        refine lv_aload_n hx hb dX8_forth_81 rfl (lv_at hl 1 rfl) ?_
        refine va_get (D := D) (ci := 8) (v := .ref a_trc) (C := RX8) (T := TX8) (N := 1) hx hb hts iX8 hown hK hP 0 rfl rfl 0 (by decide) lk9 (fun _ h9 => h9) rfl dX8_forth_82 ?_
        refine lv_iload hx hb dX8_forth_85 (lv_at hl 0 rfl) ?_
        obtain ⟨hi_14, h⟩ := h
        refine va_iald hx hb hK hP 1 0 rfl rfl hi_14 dX8_forth_87 ?_
        refine lv_topi (fun x8_15 ex8_15 => ?_)
        have h := h x8_15 ex8_15
        refine lv_istore (lv' := [(8, .int x8_15), (7, .int x7_13), (0, .ref a_tr), (1, .ref a_pll), (2, .int v2), (3, .int v3), (4, .int v4), (5, .int v5), (6, .int v6)]) hx hb dX8_forth_88 hl (by decide) rfl (fun ls hl => ?_)
        refine lv_iload hx hb dX8_forth_90 (lv_at hl 0 rfl) ?_
        refine va_mabs hx hb (hml.trans hl.1.symm) hown (hts (.methodLink RX8 32 Lib.Math.abs.name) (List.mem_cons_of_mem _ mw_631)) (hts (.static Lib.Math.abs.name) (List.mem_cons_of_mem _ mw_492)) (hts (.initialized "java/lang/Math") (List.mem_cons_of_mem _ mw_70)) (hts (.code Lib.Math.abs.name Lib.Math.abs.code 1 (some .int)) (List.mem_cons_of_mem _ mw_493)) (Nat.le_of_ble_eq_true rfl) (Nat.le_of_ble_eq_true rfl) (Nat.zero_le _) (Nat.zero_le _) dX8_forth_92 ?_
        refine va_getsN hx hb hE.2.2.2.2.1 hS hown (va_Nw.use rfl (hE.1 ("IntraMill$Transform", 38, "IntraMill", "FORTH_FACTORS", "[I") (List.mem_of_getElem? (i := 31) rfl))) (fun _ h9 => h9) dX8_forth_95 ?_
        refine lv_iload hx hb dX8_forth_98 (lv_at hl 1 rfl) ?_
        refine lv_iload_n hx hb dX8_forth_100 rfl (lv_at hl 5 rfl) ?_
        have hPc := hP.sub (ws' := []) [] rfl
        have hDc := hD.sub (ws' := []) [] (by decide) rfl
        have hFc := va_free (wc := []) hD hS hA [] rfl
        refine jm_calli (wr := [(a_tr, .inr (8, [.ref a_trc])), (a_trc, .inl (cI, 16, .inl tc)), (a_pll, .inl (cI, 1024, .inl lv))]) (va_runS (As := [.int x7_13, .int v3]) (rest := [.ref tt.2.2, .int (jabs x8_15)]) ⟨hx, hb, hml, hown, hts⟩ (c_X8_factorOf l D cI cB tt H.size x7_13 v3 h) (va_cwS 2 hts (jm_gS mw_469 mw_470 mw_59 mw_471) rfl rfl rfl (by decide +kernel) ⟨Nat.le_of_ble_eq_true rfl, Nat.le_of_ble_eq_true rfl⟩) ⟨jm_blind, jm_pre hK hE hS hPc hDc hFc _⟩ rfl rfl hl.1 rfl (lv_room (Nat.le_of_ble_eq_true rfl)) dX8_forth_101 ⟨Nat.zero_le _, Nat.zero_le _⟩) hS hP hD [] [0, 1, 2] rfl rfl (by decide) (by decide) hFc (fun r_16 u_16 H_16 locs hw hP hD hS => ?_)
        have h := hw
        have hP : va_P D vwCl [(a_tr, .inr (8, [.ref a_trc])), (a_trc, .inl (cI, 16, .inl tc)), (a_pll, .inl (cI, 1024, .inl lv))] H_16 := hP.sub [0, 1, 2] rfl
        have hD : va_D A [(a_tr, .inr (8, [.ref a_trc])), (a_trc, .inl (cI, 16, .inl tc)), (a_pll, .inl (cI, 1024, .inl lv))] := hD.sub [0, 1, 2] (by decide) rfl
        obtain ⟨hi_17, h⟩ := h
        refine va_ti hx hb hE.2.2.2.2.2 hS hi_17 rfl dX8_forth_104 ?_
        refine lv_imul hx hb dX8_forth_105 ?_
        refine lv_iload hx hb dX8_forth_106 (lv_at hl 7 rfl) ?_
        refine lv_iadd hx hb dX8_forth_108 ?_
        refine lv_iload hx hb dX8_forth_109 (lv_at hl 6 rfl) ?_
        refine lv_ishr hx hb dX8_forth_111 ?_
        refine lv_topi (fun x9_18 ex9_18 => ?_)
        have h := h x9_18 ex9_18
        refine lv_istore (lv' := [(9, .int x9_18), (8, .int x8_15), (7, .int x7_13), (0, .ref a_tr), (1, .ref a_pll), (2, .int v2), (3, .int v3), (4, .int v4), (5, .int v5), (6, .int v6)]) hx hb dX8_forth_112 hl (by decide) rfl (fun ls hl => ?_)
        refine lv_aload_n hx hb dX8_forth_114 rfl (lv_at hl 4 rfl) ?_
        refine lv_iload_n hx hb dX8_forth_115 rfl (lv_at hl 5 rfl) ?_
        refine lv_iload hx hb dX8_forth_116 (lv_at hl 9 rfl) ?_
        refine lv_iadd hx hb dX8_forth_118 ?_
        refine lv_iload hx hb dX8_forth_119 (lv_at hl 1 rfl) ?_
        obtain ⟨J_19, hj_19, h⟩ := jn1_out h
        have hJ_19 : ∀ (t0_19 : Int32), ∀ (H : Heap) (locs : List Loc) (ls : Array Slot), J_19 t0_19 → va_P D vwCl [(a_tr, .inr (8, [.ref a_trc])), (a_trc, .inl (cI, 16, .inl tc)), (a_pll, .inl (cI, 1024, .inl lv))] H → va_D A [(a_tr, .inr (8, [.ref a_trc])), (a_trc, .inl (cI, 16, .inl tc)), (a_pll, .inl (cI, 1024, .inl lv))] → va_S A s.heap H locs → lv_has ls 10 [(0, .ref a_tr), (1, .ref a_pll), (2, .int v2), (3, .int v3), (4, .int v4), (5, .int v5), (6, .int v6), (7, .int x7_13), (8, .int x8_15), (9, .int x9_18)] → W p l e rmX8_forth s m args below meth c H locs 0 0 Q (F0 m 132 ls [.int t0_19, .int (v2 + v6), .ref a_pll]) := by
          intro t0_19 H locs ls h hP hD hS hl
          have h := hj_19 t0_19 h
          obtain ⟨hi_20, h⟩ := h
          refine va_iast hx hb hK hP hD hS 2 0 rfl rfl hi_20 dX8_forth_132 (fun H_21 locs hP hD hS => ?_)
          have hP : va_P D vwCl [(a_tr, .inr (8, [.ref a_trc])), (a_trc, .inl (cI, 16, .inl tc)), (a_pll, .inl (cI, 1024, .inl (jup lv (v2 + v6) t0_19)))] H_21 := hP
          have hD : va_D A [(a_tr, .inr (8, [.ref a_trc])), (a_trc, .inl (cI, 16, .inl tc)), (a_pll, .inl (cI, 1024, .inl (jup lv (v2 + v6) t0_19)))] := hD
          obtain ⟨x6_22, ex6_22⟩ : ∃ y : Int32, y = v6 + 1 := ⟨_, rfl⟩
          have h := h x6_22 ex6_22
          refine lv_iinc (v := x6_22) (lv' := [(6, .int x6_22), (0, .ref a_tr), (1, .ref a_pll), (2, .int v2), (3, .int v3), (4, .int v4), (5, .int v5), (7, .int x7_13), (8, .int x8_15), (9, .int x9_18)]) hx hb dX8_forth_133 hl (k := 6) rfl (by rw [ex6_22]; rfl) (by decide) rfl (fun ls hl => ?_)
          refine lv_goto (tgt := 66) hx hb dX8_forth_136 (by decide) ?_
          exact ih x6_22 (jup lv (v2 + v6) t0_19) H_21 _ _ h hP hD hS (lv_sub hl [1, 2, 3, 4, 5, 6, 0] rfl)
        refine lv_if_ge (tgt := 130) hx hb dX8_forth_121 (by decide) (fun c_23 => ?_) (fun c_23 => ?_)
        · have h := h.1 c_23
          refine lv_iload hx hb dX8_forth_130 (lv_at hl 0 rfl) ?_
          exact hJ_19 x9_18 H_16 _ _ h hP hD hS (lv_sub hl [3, 4, 5, 6, 7, 8, 9, 2, 1, 0] rfl)
        · have h := h.2 c_23
          refine lv_iload hx hb dX8_forth_124 (lv_at hl 0 rfl) ?_
          refine lv_ineg hx hb dX8_forth_126 ?_
          refine lv_goto (tgt := 132) hx hb dX8_forth_127 (by decide) ?_
          exact hJ_19 (-x9_18) H_16 _ _ h hP hD hS (lv_sub hl [3, 4, 5, 6, 7, 8, 9, 2, 1, 0] rfl)
  refine hL_24 v2 v3 x4_9 x5_10 tc_8 _ ?_ n_24 0 lv H _ _ h hP hD hS (lv_sub hl [3, 4, 5, 6, 2, 1, 0] rfl)
  intro v6_24 lv_24 H locs ls h hP hD hS hl
  exact hret (tc_8, lv_24) _ _ _ _ dX8_forth_139 h hP hD hS
