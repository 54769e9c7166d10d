abbrev wd_pw_st_stb (cI cB : ClassId) (a_pw a_st a_stb : Nat) (wo : Int32) (wb : Int32) (sc : Int32) (sb : (Nat → Int32)) : va_W := [(a_pw, .inr (6, [.ref a_st, .int wo, .int wb])), (a_st, .inr (7, [.ref a_stb, .int sc])), (a_stb, .inl (cB, 8000, .inl sb))]
def wl_X6_writeBits_4 (v1 : Int32) (K : Int32 → Int32 → Int32 → (Nat → Int32) → Prop) (X : Int32 → Int32 → Int32 → Int32 → (Nat → Int32) → Prop) : Nat → Int32 → Int32 → Int32 → Int32 → (Nat → Int32) → Prop
  | 0, _, _, _, _, _ => False
  | n + 1, v3, wo, wb, sc, sb => ((v3 < 0 → X v3 wo wb sc sb) ∧ (¬ v3 < 0 → jn4 (fun (wo_5 : Int32) (wb_5 : Int32) (sc_5 : Int32) (sb_5 : (Nat → Int32)) => ∀ x3_6 : Int32, x3_6 = v3 + (-1) → wl_X6_writeBits_4 v1 K X n x3_6 wo_5 wb_5 sc_5 sb_5) (fun J_5 => (((wb + 1) = 8 → wp_X7_add sc sb ((2 * wo) + ((v1 >>> (v3 &&& 31)) &&& 1)) (fun (sc_8 : Int32) (sb_8 : (Nat → Int32)) => J_5 0 0 sc_8 sb_8)) ∧ (¬ (wb + 1) = 8 → J_5 ((2 * wo) + ((v1 >>> (v3 &&& 31)) &&& 1)) (wb + 1) sc sb)))))
def wp_X6_writeBits (wo : Int32) (wb : Int32) (sc : Int32) (sb : (Nat → Int32)) (v1 v2 : Int32) (K : Int32 → Int32 → Int32 → (Nat → Int32) → Prop) : Prop := ∀ x3_1 : Int32, x3_1 = v2 - 1 → ∃ k : Nat, wl_X6_writeBits_4 v1 K (fun (v3_11 : Int32) (wo_11 : Int32) (wb_11 : Int32) (sc_11 : Int32) (sb_11 : (Nat → Int32)) => K wo_11 wb_11 sc_11 sb_11) k x3_1 wo wb sc sb
abbrev jw_X6_writeBits : List Cond := .code yX6_writeBits cX6_writeBits 4 none :: jmAll
abbrev rmX6_writeBits : Room := { frames := 2, cells := 0, slots := 0, locals := 43 }
set_option maxHeartbeats 4000000 in
set_option maxRecDepth 100000 in
theorem c_X6_writeBits (l : Launch) (D : va_G) (cI cB : ClassId) (tt : Nat × Nat × Nat) (a_pw a_st a_stb : Nat) (sz : Nat) (wo : Int32) (wb : Int32) (sc : Int32) (sb : (Nat → Int32)) (v1 v2 : Int32) {K : Int32 → Int32 → Int32 → (Nat → Int32) → Prop} (h : wp_X6_writeBits wo wb sc sb v1 v2 K) : Met l yX6_writeBits jw_X6_writeBits rmX6_writeBits (va_Pc [.ref a_pw, .int v1, .int v2] (jm_Pre D cI cB tt (wd_pw_st_stb cI cB a_pw a_st a_stb wo wb sc sb) sz)) (va_Qv (fun (u : Int32 × Int32 × Int32 × (Nat → Int32)) => pr4 K u) (jm_Post D cI cB (wd_pw_st_stb cI cB a_pw a_st a_stb wo wb sc sb) sz (fun (u : Int32 × Int32 × Int32 × (Nat → Int32)) => wd_pw_st_stb cI cB a_pw a_st a_stb u.1 u.2.1 u.2.2.1 u.2.2.2)) (va_A (wd_pw_st_stb cI cB a_pw a_st a_stb wo wb sc sb) sz)) 0 0 (va_A (wd_pw_st_stb cI cB a_pw a_st a_stb wo wb sc sb) sz) := by
  refine jm_metV (by decide +kernel) rfl rfl (Nat.le_of_ble_eq_true rfl) ?_
  intro p e s m args below meth c A Q ls C0 hP hD hl hret
  obtain ⟨hx, hb, hml, hr, hown, hts, hlocks, hA, hK, hE⟩ := C0
  have hS : va_S A s.heap s.heap [] := va_S.rf
  have hl : lv_has ls 4 [(0, .ref a_pw), (1, .int v1), (2, .int v2)] := hl
  unfold wp_X6_writeBits at h
  have hP : va_P D vwCl [(a_pw, .inr (6, [.ref a_st, .int wo, .int wb])), (a_st, .inr (7, [.ref a_stb, .int sc])), (a_stb, .inl (cB, 8000, .inl sb))] s.heap := hP
  have hD : va_D A [(a_pw, .inr (6, [.ref a_st, .int wo, .int wb])), (a_st, .inr (7, [.ref a_stb, .int sc])), (a_stb, .inl (cB, 8000, .inl sb))] := hD
  have iX6 : ∀ w ∈ wsX60, w ∈ jw_X6_writeBits := fun w h => List.mem_cons_of_mem _ (jm_iX6 w h)
  have lk21 := hts (.fieldLink RX6 21 "IntraMill$PlanWriter" "open" "I") (List.mem_cons_of_mem _ mw_176)
  have lk24 := hts (.fieldLink RX6 24 "IntraMill$PlanWriter" "openBits" "I") (List.mem_cons_of_mem _ mw_177)
  have lk9 := hts (.fieldLink RX6 9 "IntraMill$PlanWriter" "store" "LIntraMill$Store;") (List.mem_cons_of_mem _ mw_175)
  refine lv_iload_n hx hb dX6_writeBits_0 rfl (lv_at hl 2 rfl) ?_
  refine lv_iconst (v := 1) hx hb dX6_writeBits_1 (by decide) ?_
  refine lv_isub hx hb dX6_writeBits_2 ?_
  refine lv_topi (fun x3_1 ex3_1 => ?_)
  have h := h x3_1 ex3_1
  refine lv_istore_n (lv' := [(3, .int x3_1), (0, .ref a_pw), (1, .int v1), (2, .int v2)]) hx hb dX6_writeBits_3 rfl hl (by decide) rfl (fun ls hl => ?_)
  obtain ⟨n_11, h⟩ := h
  have hL_11 : ∀ (v1 : Int32) (v2 : Int32) (X : Int32 → Int32 → Int32 → Int32 → (Nat → Int32) → Prop), (∀ (v3 : Int32) (wo : Int32) (wb : Int32) (sc : Int32) (sb : (Nat → Int32)), ∀ (H : Heap) (locs : List Loc) (ls : Array Slot), X v3 wo wb sc sb → va_P D vwCl [(a_pw, .inr (6, [.ref a_st, .int wo, .int wb])), (a_st, .inr (7, [.ref a_stb, .int sc])), (a_stb, .inl (cB, 8000, .inl sb))] H → va_D A [(a_pw, .inr (6, [.ref a_st, .int wo, .int wb])), (a_st, .inr (7, [.ref a_stb, .int sc])), (a_stb, .inl (cB, 8000, .inl sb))] → va_S A s.heap H locs → lv_has ls 4 [(0, .ref a_pw), (1, .int v1), (2, .int v2), (3, .int v3)] → W p l e rmX6_writeBits s m args below meth c H locs 0 0 Q (F0 m 70 ls [])) → ∀ (n : Nat) (v3 : Int32) (wo : Int32) (wb : Int32) (sc : Int32) (sb : (Nat → Int32)), ∀ (H : Heap) (locs : List Loc) (ls : Array Slot), wl_X6_writeBits_4 v1 K X n v3 wo wb sc sb → va_P D vwCl [(a_pw, .inr (6, [.ref a_st, .int wo, .int wb])), (a_st, .inr (7, [.ref a_stb, .int sc])), (a_stb, .inl (cB, 8000, .inl sb))] H → va_D A [(a_pw, .inr (6, [.ref a_st, .int wo, .int wb])), (a_st, .inr (7, [.ref a_stb, .int sc])), (a_stb, .inl (cB, 8000, .inl sb))] → va_S A s.heap H locs → lv_has ls 4 [(0, .ref a_pw), (1, .int v1), (2, .int v2), (3, .int v3)] → W p l e rmX6_writeBits s m args below meth c H locs 0 0 Q (F0 m 4 ls []) := by
    intro v1 v2 X hX n
    induction n with
    | zero => intro v3 wo wb sc sb H locs ls h; rw [wl_X6_writeBits_4] at h; exact h.elim
    | succ n ih =>
      intro v3 wo wb sc sb H locs ls h hP hD hS hl
      rw [wl_X6_writeBits_4] at h
      refine lv_iload_n hx hb dX6_writeBits_4 rfl (lv_at hl 3 rfl) ?_
      refine lv_if_lt (tgt := 70) hx hb dX6_writeBits_5 (by decide) (fun c_2 => ?_) (fun c_2 => ?_)
      · have h := h.1 c_2
        exact hX v3 wo wb sc sb H _ _ h hP hD hS (lv_sub hl [0, 1, 2, 3] rfl)
      · have h := h.2 c_2
        refine lv_aload_n hx hb dX6_writeBits_8 rfl (lv_at hl 0 rfl) ?_
        refine lv_iconst (v := 2) hx hb dX6_writeBits_9 (by decide) ?_
        refine lv_aload_n hx hb dX6_writeBits_10 rfl (lv_at hl 0 rfl) ?_
        refine va_get (D := D) (ci := 6) (v := .int wo) (C := RX6) (T := TX6) (N := 3) hx hb hts iX6 hown hK hP 0 rfl rfl 1 (by decide) lk21 (fun _ h9 => h9) rfl dX6_writeBits_11 ?_
        refine lv_imul hx hb dX6_writeBits_14 ?_
        refine lv_iload_n hx hb dX6_writeBits_15 rfl (lv_at hl 1 rfl) ?_
        refine lv_iload_n hx hb dX6_writeBits_16 rfl (lv_at hl 3 rfl) ?_
        refine lv_ishr hx hb dX6_writeBits_17 ?_
        refine lv_iconst (v := 1) hx hb dX6_writeBits_18 (by decide) ?_
        refine lv_iand hx hb dX6_writeBits_19 ?_
        refine lv_iadd hx hb dX6_writeBits_20 ?_
        refine va_put (D := D) (ci := 6) (v := .int ((2 * wo) + ((v1 >>> (v3 &&& 31)) &&& 1))) (ty := .int) (C := RX6) (T := TX6) (N := 3) hx hb hts iX6 tyX6 tyX6_ok nmX6 hown hK hP hD hS 0 rfl rfl 1 (by decide) lk21 (fun _ h9 => h9) rfl (by decide +kernel) rfl rfl (Nat.le_of_ble_eq_true rfl) dX6_writeBits_21 (fun H_3 locs hP hD hS => ?_)
        have hP : va_P D vwCl [(a_pw, .inr (6, [.ref a_st, .int ((2 * wo) + ((v1 >>> (v3 &&& 31)) &&& 1)), .int wb])), (a_st, .inr (7, [.ref a_stb, .int sc])), (a_stb, .inl (cB, 8000, .inl sb))] H_3 := hP
        have hD : va_D A [(a_pw, .inr (6, [.ref a_st, .int ((2 * wo) + ((v1 >>> (v3 &&& 31)) &&& 1)), .int wb])), (a_st, .inr (7, [.ref a_stb, .int sc])), (a_stb, .inl (cB, 8000, .inl sb))] := hD
        refine lv_aload_n hx hb dX6_writeBits_24 rfl (lv_at hl 0 rfl) ?_
        refine lv_dup hx hb dX6_writeBits_25 rfl ?_
        refine va_get (D := D) (ci := 6) (v := .int wb) (C := RX6) (T := TX6) (N := 3) hx hb hts iX6 hown hK hP 0 rfl rfl 2 (by decide) lk24 (fun _ h9 => h9) rfl dX6_writeBits_26 ?_
        refine lv_iconst (v := 1) hx hb dX6_writeBits_29 (by decide) ?_
        refine lv_iadd hx hb dX6_writeBits_30 ?_
        refine va_put (D := D) (ci := 6) (v := .int (wb + 1)) (ty := .int) (C := RX6) (T := TX6) (N := 3) hx hb hts iX6 tyX6 tyX6_ok nmX6 hown hK hP hD hS 0 rfl rfl 2 (by decide) lk24 (fun _ h9 => h9) rfl (by decide +kernel) rfl rfl (Nat.le_of_ble_eq_true rfl) dX6_writeBits_31 (fun H_4 locs hP hD hS => ?_)
        have hP : va_P D vwCl [(a_pw, .inr (6, [.ref a_st, .int ((2 * wo) + ((v1 >>> (v3 &&& 31)) &&& 1)), .int (wb + 1)])), (a_st, .inr (7, [.ref a_stb, .int sc])), (a_stb, .inl (cB, 8000, .inl sb))] H_4 := hP
        have hD : va_D A [(a_pw, .inr (6, [.ref a_st, .int ((2 * wo) + ((v1 >>> (v3 &&& 31)) &&& 1)), .int (wb + 1)])), (a_st, .inr (7, [.ref a_stb, .int sc])), (a_stb, .inl (cB, 8000, .inl sb))] := hD
        refine lv_aload_n hx hb dX6_writeBits_34 rfl (lv_at hl 0 rfl) ?_
        refine va_get (D := D) (ci := 6) (v := .int (wb + 1)) (C := RX6) (T := TX6) (N := 3) hx hb hts iX6 hown hK hP 0 rfl rfl 2 (by decide) lk24 (fun _ h9 => h9) rfl dX6_writeBits_35 ?_
        refine lv_bipush (v := 8) hx hb dX6_writeBits_38 (by decide) ?_
        obtain ⟨J_5, hj_5, h⟩ := jn4_out h
        have hJ_5 : ∀ (wo_5 : Int32) (wb_5 : Int32) (sc_5 : Int32) (sb_5 : (Nat → Int32)), ∀ (H : Heap) (locs : List Loc) (ls : Array Slot), J_5 wo_5 wb_5 sc_5 sb_5 → va_P D vwCl [(a_pw, .inr (6, [.ref a_st, .int wo_5, .int wb_5])), (a_st, .inr (7, [.ref a_stb, .int sc_5])), (a_stb, .inl (cB, 8000, .inl sb_5))] H → va_D A [(a_pw, .inr (6, [.ref a_st, .int wo_5, .int wb_5])), (a_st, .inr (7, [.ref a_stb, .int sc_5])), (a_stb, .inl (cB, 8000, .inl sb_5))] → va_S A s.heap H locs → lv_has ls 4 [(0, .ref a_pw), (1, .int v1), (2, .int v2), (3, .int v3)] → W p l e rmX6_writeBits s m args below meth c H locs 0 0 Q (F0 m 64 ls []) := by
          intro wo_5 wb_5 sc_5 sb_5 H locs ls h hP hD hS hl
          have h := hj_5 wo_5 wb_5 sc_5 sb_5 h
          obtain ⟨x3_6, ex3_6⟩ : ∃ y : Int32, y = v3 + (-1) := ⟨_, rfl⟩
          have h := h x3_6 ex3_6
          refine lv_iinc (v := x3_6) (lv' := [(3, .int x3_6), (0, .ref a_pw), (1, .int v1), (2, .int v2)]) hx hb dX6_writeBits_64 hl (k := 3) rfl (by rw [ex3_6]; rfl) (by decide) rfl (fun ls hl => ?_)
          refine lv_goto (tgt := 4) hx hb dX6_writeBits_67 (by decide) ?_
          exact ih x3_6 wo_5 wb_5 sc_5 sb_5 H _ _ h hP hD hS (lv_sub hl [1, 2, 3, 0] rfl)
        refine lv_icmp_ne (tgt := 64) hx hb dX6_writeBits_40 (by decide) (fun c_7 => ?_) (fun c_7 => ?_)
        · have h := h.2 c_7
          exact hJ_5 ((2 * wo) + ((v1 >>> (v3 &&& 31)) &&& 1)) (wb + 1) sc sb H_4 _ _ h hP hD hS (lv_sub hl [0, 1, 2, 3] rfl)
        · have h := h.1 c_7
          refine lv_aload_n hx hb dX6_writeBits_43 rfl (lv_at hl 0 rfl) ?_
          refine va_get (D := D) (ci := 6) (v := .ref a_st) (C := RX6) (T := TX6) (N := 3) hx hb hts iX6 hown hK hP 0 rfl rfl 0 (by decide) lk9 (fun _ h9 => h9) rfl dX6_writeBits_44 ?_
          refine lv_aload_n hx hb dX6_writeBits_47 rfl (lv_at hl 0 rfl) ?_
          refine va_get (D := D) (ci := 6) (v := .int ((2 * wo) + ((v1 >>> (v3 &&& 31)) &&& 1))) (C := RX6) (T := TX6) (N := 3) hx hb hts iX6 hown hK hP 0 rfl rfl 1 (by decide) lk21 (fun _ h9 => h9) rfl dX6_writeBits_48 ?_
          have hPc := hP.sub (ws' := [(a_st, .inr (7, [.ref a_stb, .int sc])), (a_stb, .inl (cB, 8000, .inl sb))]) [1, 2] rfl
          have hDc := hD.sub (ws' := [(a_st, .inr (7, [.ref a_stb, .int sc])), (a_stb, .inl (cB, 8000, .inl sb))]) [1, 2] (by decide) rfl
          have hFc := va_free (wc := [(a_st, .inr (7, [.ref a_stb, .int sc])), (a_stb, .inl (cB, 8000, .inl sb))]) hD hS hA [1, 2] rfl
          refine jm_callv (wr := [(a_pw, .inr (6, [.ref a_st, .int ((2 * wo) + ((v1 >>> (v3 &&& 31)) &&& 1)), .int (wb + 1)]))]) (va_runV (As := [.int ((2 * wo) + ((v1 >>> (v3 &&& 31)) &&& 1))]) (rest := []) ⟨hx, hb, hml, hown, hts⟩ (c_X7_add l D cI cB tt a_st a_stb H_4.size sc sb ((2 * wo) + ((v1 >>> (v3 &&& 31)) &&& 1)) h) (cwV 1 hts (jm_gV mw_646 mw_647 mw_648 mw_60 mw_649) rfl rfl rfl (by decide +kernel) ⟨Nat.le_of_ble_eq_true rfl, Nat.le_of_ble_eq_true rfl⟩) ⟨jm_blind, va_recv hK hPc (ci := 7) (q0 := 0) rfl rfl, jm_pre hK hE hS hPc hDc hFc _⟩ rfl rfl hl.1 rfl (lv_room (Nat.le_of_ble_eq_true rfl)) dX6_writeBits_51 ⟨Nat.zero_le _, Nat.zero_le _⟩) hS hP hD [1, 2] [0] rfl rfl (by decide) (by decide) hFc (fun u_8 H_8 locs hw hP hD hS => ?_)
          obtain ⟨sc_8, sb_8⟩ := u_8
          have h := pr2_out hw
          have hP : va_P D vwCl [(a_pw, .inr (6, [.ref a_st, .int ((2 * wo) + ((v1 >>> (v3 &&& 31)) &&& 1)), .int (wb + 1)])), (a_st, .inr (7, [.ref a_stb, .int sc_8])), (a_stb, .inl (cB, 8000, .inl sb_8))] H_8 := hP.sub [0, 1, 2] rfl
          have hD : va_D A [(a_pw, .inr (6, [.ref a_st, .int ((2 * wo) + ((v1 >>> (v3 &&& 31)) &&& 1)), .int (wb + 1)])), (a_st, .inr (7, [.ref a_stb, .int sc_8])), (a_stb, .inl (cB, 8000, .inl sb_8))] := hD.sub [0, 1, 2] (by decide) rfl
          refine lv_aload_n hx hb dX6_writeBits_54 rfl (lv_at hl 0 rfl) ?_
          refine lv_iconst (v := 0) hx hb dX6_writeBits_55 (by decide) ?_
          refine va_put (D := D) (ci := 6) (v := .int 0) (ty := .int) (C := RX6) (T := TX6) (N := 3) hx hb hts iX6 tyX6 tyX6_ok nmX6 hown hK hP hD hS 0 rfl rfl 1 (by decide) lk21 (fun _ h9 => h9) rfl (by decide +kernel) rfl rfl (Nat.le_of_ble_eq_true rfl) dX6_writeBits_56 (fun H_9 locs hP hD hS => ?_)
          have hP : va_P D vwCl [(a_pw, .inr (6, [.ref a_st, .int 0, .int (wb + 1)])), (a_st, .inr (7, [.ref a_stb, .int sc_8])), (a_stb, .inl (cB, 8000, .inl sb_8))] H_9 := hP
          have hD : va_D A [(a_pw, .inr (6, [.ref a_st, .int 0, .int (wb + 1)])), (a_st, .inr (7, [.ref a_stb, .int sc_8])), (a_stb, .inl (cB, 8000, .inl sb_8))] := hD
          refine lv_aload_n hx hb dX6_writeBits_59 rfl (lv_at hl 0 rfl) ?_
          refine lv_iconst (v := 0) hx hb dX6_writeBits_60 (by decide) ?_
          refine va_put (D := D) (ci := 6) (v := .int 0) (ty := .int) (C := RX6) (T := TX6) (N := 3) hx hb hts iX6 tyX6 tyX6_ok nmX6 hown hK hP hD hS 0 rfl rfl 2 (by decide) lk24 (fun _ h9 => h9) rfl (by decide +kernel) rfl rfl (Nat.le_of_ble_eq_true rfl) dX6_writeBits_61 (fun H_10 locs hP hD hS => ?_)
          have hP : va_P D vwCl [(a_pw, .inr (6, [.ref a_st, .int 0, .int 0])), (a_st, .inr (7, [.ref a_stb, .int sc_8])), (a_stb, .inl (cB, 8000, .inl sb_8))] H_10 := hP
          have hD : va_D A [(a_pw, .inr (6, [.ref a_st, .int 0, .int 0])), (a_st, .inr (7, [.ref a_stb, .int sc_8])), (a_stb, .inl (cB, 8000, .inl sb_8))] := hD
          exact hJ_5 0 0 sc_8 sb_8 H_10 _ _ h hP hD hS (lv_sub hl [0, 1, 2, 3] rfl)
  refine hL_11 v1 v2 _ ?_ n_11 x3_1 wo wb sc sb s.heap _ _ h hP hD hS (lv_sub hl [1, 2, 3, 0] rfl)
  intro v3_11 wo_11 wb_11 sc_11 sb_11 H locs ls h hP hD hS hl
  exact hret (wo_11, wb_11, sc_11, sb_11) _ _ _ _ dX6_writeBits_70 h hP hD hS
def wl_X6_writeNumber_2 (v1 : Int32) (K : Int32 → Int32 → Int32 → (Nat → Int32) → Prop) (X : Int32 → Prop) : Nat → Int32 → Prop
  | 0, _ => False
  | n + 1, v2 => ((15 ≤ v2 → X v2) ∧ (¬ 15 ≤ v2 → ((((v1 + 1) >>> ((v2 + 1) &&& 31)) = 0 → X v2) ∧ (¬ ((v1 + 1) >>> ((v2 + 1) &&& 31)) = 0 → ∀ x2_3 : Int32, x2_3 = v2 + 1 → wl_X6_writeNumber_2 v1 K X n x2_3))))
def wp_X6_writeNumber (wo : Int32) (wb : Int32) (sc : Int32) (sb : (Nat → Int32)) (v1 : Int32) (K : Int32 → Int32 → Int32 → (Nat → Int32) → Prop) : Prop := ∃ k : Nat, wl_X6_writeNumber_2 v1 K (fun (v2_4 : Int32) => wp_X6_writeBits wo wb sc sb 0 v2_4 (fun (wo_5 : Int32) (wb_5 : Int32) (sc_5 : Int32) (sb_5 : (Nat → Int32)) => wp_X6_writeBits wo_5 wb_5 sc_5 sb_5 (v1 + 1) (v2_4 + 1) (fun (wo_6 : Int32) (wb_6 : Int32) (sc_6 : Int32) (sb_6 : (Nat → Int32)) => K wo_6 wb_6 sc_6 sb_6))) k 0
abbrev jw_X6_writeNumber : List Cond := .code yX6_writeNumber cX6_writeNumber 3 none :: jmAll
abbrev rmX6_writeNumber : Room := { frames := 3, cells := 0, slots := 0, locals := 66 }
set_option maxHeartbeats 4000000 in
set_option maxRecDepth 100000 in
theorem c_X6_writeNumber (l : Launch) (D : va_G) (cI cB : ClassId) (tt : Nat × Nat × Nat) (a_pw a_st a_stb : Nat) (sz : Nat) (wo : Int32) (wb : Int32) (sc : Int32) (sb : (Nat → Int32)) (v1 : Int32) {K : Int32 → Int32 → Int32 → (Nat → Int32) → Prop} (h : wp_X6_writeNumber wo wb sc sb v1 K) : Met l yX6_writeNumber jw_X6_writeNumber rmX6_writeNumber (va_Pc [.ref a_pw, .int v1] (jm_Pre D cI cB tt (wd_pw_st_stb cI cB a_pw a_st a_stb wo wb sc sb) sz)) (va_Qv (fun (u : Int32 × Int32 × Int32 × (Nat → Int32)) => pr4 K u) (jm_Post D cI cB (wd_pw_st_stb cI cB a_pw a_st a_stb wo wb sc sb) sz (fun (u : Int32 × Int32 × Int32 × (Nat → Int32)) => wd_pw_st_stb cI cB a_pw a_st a_stb u.1 u.2.1 u.2.2.1 u.2.2.2)) (va_A (wd_pw_st_stb cI cB a_pw a_st a_stb wo wb sc sb) sz)) 0 0 (va_A (wd_pw_st_stb cI cB a_pw a_st a_stb wo wb sc sb) sz) := by
  refine jm_metV (by decide +kernel) rfl rfl (Nat.le_of_ble_eq_true rfl) ?_
  intro p e s m args below meth c A Q ls C0 hP hD hl hret
  obtain ⟨hx, hb, hml, hr, hown, hts, hlocks, hA, hK, hE⟩ := C0
  have hS : va_S A s.heap s.heap [] := va_S.rf
  have hl : lv_has ls 3 [(0, .ref a_pw), (1, .int v1)] := hl
  unfold wp_X6_writeNumber at h
  have hP : va_P D vwCl [(a_pw, .inr (6, [.ref a_st, .int wo, .int wb])), (a_st, .inr (7, [.ref a_stb, .int sc])), (a_stb, .inl (cB, 8000, .inl sb))] s.heap := hP
  have hD : va_D A [(a_pw, .inr (6, [.ref a_st, .int wo, .int wb])), (a_st, .inr (7, [.ref a_stb, .int sc])), (a_stb, .inl (cB, 8000, .inl sb))] := hD
  refine lv_iconst (v := 0) hx hb dX6_writeNumber_0 (by decide) ?_
  refine lv_istore_n (lv' := [(2, .int 0), (0, .ref a_pw), (1, .int v1)]) hx hb dX6_writeNumber_1 rfl hl (by decide) rfl (fun ls hl => ?_)
  obtain ⟨n_4, h⟩ := h
  have hL_4 : ∀ (v1 : Int32) (wo : Int32) (wb : Int32) (sc : Int32) (sb : (Nat → Int32)) (X : Int32 → Prop), (∀ (v2 : Int32), ∀ (H : Heap) (locs : List Loc) (ls : Array Slot), X v2 → va_P D vwCl [(a_pw, .inr (6, [.ref a_st, .int wo, .int wb])), (a_st, .inr (7, [.ref a_stb, .int sc])), (a_stb, .inl (cB, 8000, .inl sb))] H → va_D A [(a_pw, .inr (6, [.ref a_st, .int wo, .int wb])), (a_st, .inr (7, [.ref a_stb, .int sc])), (a_stb, .inl (cB, 8000, .inl sb))] → va_S A s.heap H locs → lv_has ls 3 [(0, .ref a_pw), (1, .int v1), (2, .int v2)] → W p l e rmX6_writeNumber s m args below meth c H locs 0 0 Q (F0 m 24 ls [])) → ∀ (n : Nat) (v2 : Int32), ∀ (H : Heap) (locs : List Loc) (ls : Array Slot), wl_X6_writeNumber_2 v1 K X n v2 → va_P D vwCl [(a_pw, .inr (6, [.ref a_st, .int wo, .int wb])), (a_st, .inr (7, [.ref a_stb, .int sc])), (a_stb, .inl (cB, 8000, .inl sb))] H → va_D A [(a_pw, .inr (6, [.ref a_st, .int wo, .int wb])), (a_st, .inr (7, [.ref a_stb, .int sc])), (a_stb, .inl (cB, 8000, .inl sb))] → va_S A s.heap H locs → lv_has ls 3 [(0, .ref a_pw), (1, .int v1), (2, .int v2)] → W p l e rmX6_writeNumber s m args below meth c H locs 0 0 Q (F0 m 2 ls []) := by
    intro v1 wo wb sc sb X hX n
    induction n with
    | zero => intro v2 H locs ls h; rw [wl_X6_writeNumber_2] at h; exact h.elim
    | succ n ih =>
      intro v2 H locs ls h hP hD hS hl
      rw [wl_X6_writeNumber_2] at h
      refine lv_iload_n hx hb dX6_writeNumber_2 rfl (lv_at hl 2 rfl) ?_
      refine lv_bipush (v := 15) hx hb dX6_writeNumber_3 (by decide) ?_
      refine lv_icmp_ge (tgt := 24) hx hb dX6_writeNumber_5 (by decide) (fun c_1 => ?_) (fun c_1 => ?_)
      · have h := h.1 c_1
        exact hX v2 H _ _ h hP hD hS (lv_sub hl [0, 1, 2] rfl)
      · have h := h.2 c_1
        refine lv_iload_n hx hb dX6_writeNumber_8 rfl (lv_at hl 1 rfl) ?_
        refine lv_iconst (v := 1) hx hb dX6_writeNumber_9 (by decide) ?_
        refine lv_iadd hx hb dX6_writeNumber_10 ?_
        refine lv_iload_n hx hb dX6_writeNumber_11 rfl (lv_at hl 2 rfl) ?_
        refine lv_iconst (v := 1) hx hb dX6_writeNumber_12 (by decide) ?_
        refine lv_iadd hx hb dX6_writeNumber_13 ?_
        refine lv_ishr hx hb dX6_writeNumber_14 ?_
        refine lv_if_eq (tgt := 24) hx hb dX6_writeNumber_15 (by decide) (fun c_2 => ?_) (fun c_2 => ?_)
        · have h := h.1 c_2
          exact hX v2 H _ _ h hP hD hS (lv_sub hl [0, 1, 2] rfl)
        · have h := h.2 c_2
          obtain ⟨x2_3, ex2_3⟩ : ∃ y : Int32, y = v2 + 1 := ⟨_, rfl⟩
          have h := h x2_3 ex2_3
          refine lv_iinc (v := x2_3) (lv' := [(2, .int x2_3), (0, .ref a_pw), (1, .int v1)]) hx hb dX6_writeNumber_18 hl (k := 2) rfl (by rw [ex2_3]; rfl) (by decide) rfl (fun ls hl => ?_)
          refine lv_goto (tgt := 2) hx hb dX6_writeNumber_21 (by decide) ?_
          exact ih x2_3 H _ _ h hP hD hS (lv_sub hl [1, 2, 0] rfl)
  refine hL_4 v1 wo wb sc sb _ ?_ n_4 0 s.heap _ _ h hP hD hS (lv_sub hl [1, 2, 0] rfl)
  intro v2_4 H locs ls h hP hD hS hl
  refine lv_aload_n hx hb dX6_writeNumber_24 rfl (lv_at hl 0 rfl) ?_
  refine lv_iconst (v := 0) hx hb dX6_writeNumber_25 (by decide) ?_
  refine lv_iload_n hx hb dX6_writeNumber_26 rfl (lv_at hl 2 rfl) ?_
  have hPc := hP.sub (ws' := [(a_pw, .inr (6, [.ref a_st, .int wo, .int wb])), (a_st, .inr (7, [.ref a_stb, .int sc])), (a_stb, .inl (cB, 8000, .inl sb))]) [0, 1, 2] rfl
  have hDc := hD.sub (ws' := [(a_pw, .inr (6, [.ref a_st, .int wo, .int wb])), (a_st, .inr (7, [.ref a_stb, .int sc])), (a_stb, .inl (cB, 8000, .inl sb))]) [0, 1, 2] (by decide) rfl
  have hFc := va_free (wc := [(a_pw, .inr (6, [.ref a_st, .int wo, .int wb])), (a_st, .inr (7, [.ref a_stb, .int sc])), (a_stb, .inl (cB, 8000, .inl sb))]) hD hS hA [0, 1, 2] rfl
  refine jm_callv (wr := []) (va_runV (As := [.int 0, .int v2_4]) (rest := []) ⟨hx, hb, hml, hown, hts⟩ (c_X6_writeBits l D cI cB tt a_pw a_st a_stb H.size wo wb sc sb 0 v2_4 h) (cwV 2 hts (jm_gV mw_642 mw_644 mw_22 mw_61 mw_645) rfl rfl rfl (by decide +kernel) ⟨Nat.le_of_ble_eq_true rfl, Nat.le_of_ble_eq_true rfl⟩) ⟨jm_blind, va_recv hK hPc (ci := 6) (q0 := 0) rfl rfl, jm_pre hK hE hS hPc hDc hFc _⟩ rfl rfl hl.1 rfl (lv_room (Nat.le_of_ble_eq_true rfl)) dX6_writeNumber_27 ⟨Nat.zero_le _, Nat.zero_le _⟩) hS hP hD [0, 1, 2] [] rfl rfl (by decide) (by decide) hFc (fun u_5 H_5 locs hw hP hD hS => ?_)
  obtain ⟨wo_5, wb_5, sc_5, sb_5⟩ := u_5
  have h := pr4_out hw
  have hP : va_P D vwCl [(a_pw, .inr (6, [.ref a_st, .int wo_5, .int wb_5])), (a_st, .inr (7, [.ref a_stb, .int sc_5])), (a_stb, .inl (cB, 8000, .inl sb_5))] H_5 := hP.sub [0, 1, 2] rfl
  have hD : va_D A [(a_pw, .inr (6, [.ref a_st, .int wo_5, .int wb_5])), (a_st, .inr (7, [.ref a_stb, .int sc_5])), (a_stb, .inl (cB, 8000, .inl sb_5))] := hD.sub [0, 1, 2] (by decide) rfl
  refine lv_aload_n hx hb dX6_writeNumber_30 rfl (lv_at hl 0 rfl) ?_
  refine lv_iload_n hx hb dX6_writeNumber_31 rfl (lv_at hl 1 rfl) ?_
  refine lv_iconst (v := 1) hx hb dX6_writeNumber_32 (by decide) ?_
  refine lv_iadd hx hb dX6_writeNumber_33 ?_
  refine lv_iload_n hx hb dX6_writeNumber_34 rfl (lv_at hl 2 rfl) ?_
  refine lv_iconst (v := 1) hx hb dX6_writeNumber_35 (by decide) ?_
  refine lv_iadd hx hb dX6_writeNumber_36 ?_
  have hPc := hP.sub (ws' := [(a_pw, .inr (6, [.ref a_st, .int wo_5, .int wb_5])), (a_st, .inr (7, [.ref a_stb, .int sc_5])), (a_stb, .inl (cB, 8000, .inl sb_5))]) [0, 1, 2] rfl
  have hDc := hD.sub (ws' := [(a_pw, .inr (6, [.ref a_st, .int wo_5, .int wb_5])), (a_st, .inr (7, [.ref a_stb, .int sc_5])), (a_stb, .inl (cB, 8000, .inl sb_5))]) [0, 1, 2] (by decide) rfl
  have hFc := va_free (wc := [(a_pw, .inr (6, [.ref a_st, .int wo_5, .int wb_5])), (a_st, .inr (7, [.ref a_stb, .int sc_5])), (a_stb, .inl (cB, 8000, .inl sb_5))]) hD hS hA [0, 1, 2] rfl
  refine jm_callv (wr := []) (va_runV (As := [.int (v1 + 1), .int (v2_4 + 1)]) (rest := []) ⟨hx, hb, hml, hown, hts⟩ (c_X6_writeBits l D cI cB tt a_pw a_st a_stb H_5.size wo_5 wb_5 sc_5 sb_5 (v1 + 1) (v2_4 + 1) h) (cwV 2 hts (jm_gV mw_642 mw_644 mw_22 mw_61 mw_645) rfl rfl rfl (by decide +kernel) ⟨Nat.le_of_ble_eq_true rfl, Nat.le_of_ble_eq_true rfl⟩) ⟨jm_blind, va_recv hK hPc (ci := 6) (q0 := 0) rfl rfl, jm_pre hK hE hS hPc hDc hFc _⟩ rfl rfl hl.1 rfl (lv_room (Nat.le_of_ble_eq_true rfl)) dX6_writeNumber_37 ⟨Nat.zero_le _, Nat.zero_le _⟩) hS hP hD [0, 1, 2] [] rfl rfl (by decide) (by decide) hFc (fun u_6 H_6 locs hw hP hD hS => ?_)
  obtain ⟨wo_6, wb_6, sc_6, sb_6⟩ := u_6
  have h := pr4_out hw
  have hP : va_P D vwCl [(a_pw, .inr (6, [.ref a_st, .int wo_6, .int wb_6])), (a_st, .inr (7, [.ref a_stb, .int sc_6])), (a_stb, .inl (cB, 8000, .inl sb_6))] H_6 := hP.sub [0, 1, 2] rfl
  have hD : va_D A [(a_pw, .inr (6, [.ref a_st, .int wo_6, .int wb_6])), (a_st, .inr (7, [.ref a_stb, .int sc_6])), (a_stb, .inl (cB, 8000, .inl sb_6))] := hD.sub [0, 1, 2] (by decide) rfl
  exact hret (wo_6, wb_6, sc_6, sb_6) _ _ _ _ dX6_writeNumber_40 h hP hD hS
def wp_X6_writeMode (wo : Int32) (wb : Int32) (sc : Int32) (sb : (Nat → Int32)) (v1 v2 : Int32) (K : Int32 → Int32 → Int32 → (Nat → Int32) → Prop) : Prop := ((v1 = v2 → wp_X6_writeBits wo wb sc sb 1 1 (fun (wo_6 : Int32) (wb_6 : Int32) (sc_6 : Int32) (sb_6 : (Nat → Int32)) => K wo_6 wb_6 sc_6 sb_6)) ∧ (¬ v1 = v2 → wp_X6_writeBits wo wb sc sb 0 1 (fun (wo_2 : Int32) (wb_2 : Int32) (sc_2 : Int32) (sb_2 : (Nat → Int32)) => jn1 (fun (t0_3 : Int32) => wp_X6_writeBits wo_2 wb_2 sc_2 sb_2 t0_3 3 (fun (wo_4 : Int32) (wb_4 : Int32) (sc_4 : Int32) (sb_4 : (Nat → Int32)) => K wo_4 wb_4 sc_4 sb_4)) (fun J_3 => ((v1 ≤ v2 → J_3 v1) ∧ (¬ v1 ≤ v2 → J_3 (v1 - 1)))))))
abbrev jw_X6_writeMode : List Cond := .code yX6_writeMode cX6_writeMode 3 none :: jmAll
abbrev rmX6_writeMode : Room := { frames := 3, cells := 0, slots := 0, locals := 66 }
set_option maxHeartbeats 4000000 in
set_option maxRecDepth 100000 in
theorem c_X6_writeMode (l : Launch) (D : va_G) (cI cB : ClassId) (tt : Nat × Nat × Nat) (a_pw a_st a_stb : Nat) (sz : Nat) (wo : Int32) (wb : Int32) (sc : Int32) (sb : (Nat → Int32)) (v1 v2 : Int32) {K : Int32 → Int32 → Int32 → (Nat → Int32) → Prop} (h : wp_X6_writeMode wo wb sc sb v1 v2 K) : Met l yX6_writeMode jw_X6_writeMode rmX6_writeMode (va_Pc [.ref a_pw, .int v1, .int v2] (jm_Pre D cI cB tt (wd_pw_st_stb cI cB a_pw a_st a_stb wo wb sc sb) sz)) (va_Qv (fun (u : Int32 × Int32 × Int32 × (Nat → Int32)) => pr4 K u) (jm_Post D cI cB (wd_pw_st_stb cI cB a_pw a_st a_stb wo wb sc sb) sz (fun (u : Int32 × Int32 × Int32 × (Nat → Int32)) => wd_pw_st_stb cI cB a_pw a_st a_stb u.1 u.2.1 u.2.2.1 u.2.2.2)) (va_A (wd_pw_st_stb cI cB a_pw a_st a_stb wo wb sc sb) sz)) 0 0 (va_A (wd_pw_st_stb cI cB a_pw a_st a_stb wo wb sc sb) sz) := by
  refine jm_metV (by decide +kernel) rfl rfl (Nat.le_of_ble_eq_true rfl) ?_
  intro p e s m args below meth c A Q ls C0 hP hD hl hret
  obtain ⟨hx, hb, hml, hr, hown, hts, hlocks, hA, hK, hE⟩ := C0
  have hS : va_S A s.heap s.heap [] := va_S.rf
  have hl : lv_has ls 3 [(0, .ref a_pw), (1, .int v1), (2, .int v2)] := hl
  unfold wp_X6_writeMode at h
  have hP : va_P D vwCl [(a_pw, .inr (6, [.ref a_st, .int wo, .int wb])), (a_st, .inr (7, [.ref a_stb, .int sc])), (a_stb, .inl (cB, 8000, .inl sb))] s.heap := hP
  have hD : va_D A [(a_pw, .inr (6, [.ref a_st, .int wo, .int wb])), (a_st, .inr (7, [.ref a_stb, .int sc])), (a_stb, .inl (cB, 8000, .inl sb))] := hD
  refine lv_iload_n hx hb dX6_writeMode_0 rfl (lv_at hl 1 rfl) ?_
  refine lv_iload_n hx hb dX6_writeMode_1 rfl (lv_at hl 2 rfl) ?_
  refine lv_icmp_ne (tgt := 14) hx hb dX6_writeMode_2 (by decide) (fun c_1 => ?_) (fun c_1 => ?_)
  · have h := h.2 c_1
    refine lv_aload_n hx hb dX6_writeMode_14 rfl (lv_at hl 0 rfl) ?_
    refine lv_iconst (v := 0) hx hb dX6_writeMode_15 (by decide) ?_
    refine lv_iconst (v := 1) hx hb dX6_writeMode_16 (by decide) ?_
    have hPc := hP.sub (ws' := [(a_pw, .inr (6, [.ref a_st, .int wo, .int wb])), (a_st, .inr (7, [.ref a_stb, .int sc])), (a_stb, .inl (cB, 8000, .inl sb))]) [0, 1, 2] rfl
    have hDc := hD.sub (ws' := [(a_pw, .inr (6, [.ref a_st, .int wo, .int wb])), (a_st, .inr (7, [.ref a_stb, .int sc])), (a_stb, .inl (cB, 8000, .inl sb))]) [0, 1, 2] (by decide) rfl
    have hFc := va_free (wc := [(a_pw, .inr (6, [.ref a_st, .int wo, .int wb])), (a_st, .inr (7, [.ref a_stb, .int sc])), (a_stb, .inl (cB, 8000, .inl sb))]) hD hS hA [0, 1, 2] rfl
    refine jm_callv (wr := []) (va_runV (As := [.int 0, .int 1]) (rest := []) ⟨hx, hb, hml, hown, hts⟩ (c_X6_writeBits l D cI cB tt a_pw a_st a_stb s.heap.size wo wb sc sb 0 1 h) (cwV 2 hts (jm_gV mw_642 mw_644 mw_22 mw_61 mw_645) rfl rfl rfl (by decide +kernel) ⟨Nat.le_of_ble_eq_true rfl, Nat.le_of_ble_eq_true rfl⟩) ⟨jm_blind, va_recv hK hPc (ci := 6) (q0 := 0) rfl rfl, jm_pre hK hE hS hPc hDc hFc _⟩ rfl rfl hl.1 rfl (lv_room (Nat.le_of_ble_eq_true rfl)) dX6_writeMode_17 ⟨Nat.zero_le _, Nat.zero_le _⟩) hS hP hD [0, 1, 2] [] rfl rfl (by decide) (by decide) hFc (fun u_2 H_2 locs hw hP hD hS => ?_)
    obtain ⟨wo_2, wb_2, sc_2, sb_2⟩ := u_2
    have h := pr4_out hw
    have hP : va_P D vwCl [(a_pw, .inr (6, [.ref a_st, .int wo_2, .int wb_2])), (a_st, .inr (7, [.ref a_stb, .int sc_2])), (a_stb, .inl (cB, 8000, .inl sb_2))] H_2 := hP.sub [0, 1, 2] rfl
    have hD : va_D A [(a_pw, .inr (6, [.ref a_st, .int wo_2, .int wb_2])), (a_st, .inr (7, [.ref a_stb, .int sc_2])), (a_stb, .inl (cB, 8000, .inl sb_2))] := hD.sub [0, 1, 2] (by decide) rfl
    refine lv_aload_n hx hb dX6_writeMode_20 rfl (lv_at hl 0 rfl) ?_
    refine lv_iload_n hx hb dX6_writeMode_21 rfl (lv_at hl 1 rfl) ?_
    refine lv_iload_n hx hb dX6_writeMode_22 rfl (lv_at hl 2 rfl) ?_
    obtain ⟨J_3, hj_3, h⟩ := jn1_out h
    have hJ_3 : ∀ (t0_3 : Int32), ∀ (H : Heap) (locs : List Loc) (ls : Array Slot), J_3 t0_3 → va_P D vwCl [(a_pw, .inr (6, [.ref a_st, .int wo_2, .int wb_2])), (a_st, .inr (7, [.ref a_stb, .int sc_2])), (a_stb, .inl (cB, 8000, .inl sb_2))] H → va_D A [(a_pw, .inr (6, [.ref a_st, .int wo_2, .int wb_2])), (a_st, .inr (7, [.ref a_stb, .int sc_2])), (a_stb, .inl (cB, 8000, .inl sb_2))] → va_S A s.heap H locs → lv_has ls 3 [(0, .ref a_pw), (1, .int v1), (2, .int v2)] → W p l e rmX6_writeMode s m args below meth c H locs 0 0 Q (F0 m 33 ls [.int t0_3, .ref a_pw]) := by
      intro t0_3 H locs ls h hP hD hS hl
      have h := hj_3 t0_3 h
      refine lv_iconst (v := 3) hx hb dX6_writeMode_33 (by decide) ?_
      have hPc := hP.sub (ws' := [(a_pw, .inr (6, [.ref a_st, .int wo_2, .int wb_2])), (a_st, .inr (7, [.ref a_stb, .int sc_2])), (a_stb, .inl (cB, 8000, .inl sb_2))]) [0, 1, 2] rfl
      have hDc := hD.sub (ws' := [(a_pw, .inr (6, [.ref a_st, .int wo_2, .int wb_2])), (a_st, .inr (7, [.ref a_stb, .int sc_2])), (a_stb, .inl (cB, 8000, .inl sb_2))]) [0, 1, 2] (by decide) rfl
      have hFc := va_free (wc := [(a_pw, .inr (6, [.ref a_st, .int wo_2, .int wb_2])), (a_st, .inr (7, [.ref a_stb, .int sc_2])), (a_stb, .inl (cB, 8000, .inl sb_2))]) hD hS hA [0, 1, 2] rfl
      refine jm_callv (wr := []) (va_runV (As := [.int t0_3, .int 3]) (rest := []) ⟨hx, hb, hml, hown, hts⟩ (c_X6_writeBits l D cI cB tt a_pw a_st a_stb H.size wo_2 wb_2 sc_2 sb_2 t0_3 3 h) (cwV 2 hts (jm_gV mw_642 mw_644 mw_22 mw_61 mw_645) rfl rfl rfl (by decide +kernel) ⟨Nat.le_of_ble_eq_true rfl, Nat.le_of_ble_eq_true rfl⟩) ⟨jm_blind, va_recv hK hPc (ci := 6) (q0 := 0) rfl rfl, jm_pre hK hE hS hPc hDc hFc _⟩ rfl rfl hl.1 rfl (lv_room (Nat.le_of_ble_eq_true rfl)) dX6_writeMode_34 ⟨Nat.zero_le _, Nat.zero_le _⟩) hS hP hD [0, 1, 2] [] rfl rfl (by decide) (by decide) hFc (fun u_4 H_4 locs hw hP hD hS => ?_)
      obtain ⟨wo_4, wb_4, sc_4, sb_4⟩ := u_4
      have h := pr4_out hw
      have hP : va_P D vwCl [(a_pw, .inr (6, [.ref a_st, .int wo_4, .int wb_4])), (a_st, .inr (7, [.ref a_stb, .int sc_4])), (a_stb, .inl (cB, 8000, .inl sb_4))] H_4 := hP.sub [0, 1, 2] rfl
      have hD : va_D A [(a_pw, .inr (6, [.ref a_st, .int wo_4, .int wb_4])), (a_st, .inr (7, [.ref a_stb, .int sc_4])), (a_stb, .inl (cB, 8000, .inl sb_4))] := hD.sub [0, 1, 2] (by decide) rfl
      exact hret (wo_4, wb_4, sc_4, sb_4) _ _ _ _ dX6_writeMode_37 h hP hD hS
    refine lv_icmp_le (tgt := 32) hx hb dX6_writeMode_23 (by decide) (fun c_5 => ?_) (fun c_5 => ?_)
    · have h := h.1 c_5
      refine lv_iload_n hx hb dX6_writeMode_32 rfl (lv_at hl 1 rfl) ?_
      exact hJ_3 v1 H_2 _ _ h hP hD hS (lv_sub hl [0, 1, 2] rfl)
    · have h := h.2 c_5
      refine lv_iload_n hx hb dX6_writeMode_26 rfl (lv_at hl 1 rfl) ?_
      refine lv_iconst (v := 1) hx hb dX6_writeMode_27 (by decide) ?_
      refine lv_isub hx hb dX6_writeMode_28 ?_
      refine lv_goto (tgt := 33) hx hb dX6_writeMode_29 (by decide) ?_
      exact hJ_3 (v1 - 1) H_2 _ _ h hP hD hS (lv_sub hl [0, 1, 2] rfl)
  · have h := h.1 c_1
    refine lv_aload_n hx hb dX6_writeMode_5 rfl (lv_at hl 0 rfl) ?_
    refine lv_iconst (v := 1) hx hb dX6_writeMode_6 (by decide) ?_
    refine lv_iconst (v := 1) hx hb dX6_writeMode_7 (by decide) ?_
    have hPc := hP.sub (ws' := [(a_pw, .inr (6, [.ref a_st, .int wo, .int wb])), (a_st, .inr (7, [.ref a_stb, .int sc])), (a_stb, .inl (cB, 8000, .inl sb))]) [0, 1, 2] rfl
    have hDc := hD.sub (ws' := [(a_pw, .inr (6, [.ref a_st, .int wo, .int wb])), (a_st, .inr (7, [.ref a_stb, .int sc])), (a_stb, .inl (cB, 8000, .inl sb))]) [0, 1, 2] (by decide) rfl
    have hFc := va_free (wc := [(a_pw, .inr (6, [.ref a_st, .int wo, .int wb])), (a_st, .inr (7, [.ref a_stb, .int sc])), (a_stb, .inl (cB, 8000, .inl sb))]) hD hS hA [0, 1, 2] rfl
    refine jm_callv (wr := []) (va_runV (As := [.int 1, .int 1]) (rest := []) ⟨hx, hb, hml, hown, hts⟩ (c_X6_writeBits l D cI cB tt a_pw a_st a_stb s.heap.size wo wb sc sb 1 1 h) (cwV 2 hts (jm_gV mw_642 mw_644 mw_22 mw_61 mw_645) rfl rfl rfl (by decide +kernel) ⟨Nat.le_of_ble_eq_true rfl, Nat.le_of_ble_eq_true rfl⟩) ⟨jm_blind, va_recv hK hPc (ci := 6) (q0 := 0) rfl rfl, jm_pre hK hE hS hPc hDc hFc _⟩ rfl rfl hl.1 rfl (lv_room (Nat.le_of_ble_eq_true rfl)) dX6_writeMode_8 ⟨Nat.zero_le _, Nat.zero_le _⟩) hS hP hD [0, 1, 2] [] rfl rfl (by decide) (by decide) hFc (fun u_6 H_6 locs hw hP hD hS => ?_)
    obtain ⟨wo_6, wb_6, sc_6, sb_6⟩ := u_6
    have h := pr4_out hw
    have hP : va_P D vwCl [(a_pw, .inr (6, [.ref a_st, .int wo_6, .int wb_6])), (a_st, .inr (7, [.ref a_stb, .int sc_6])), (a_stb, .inl (cB, 8000, .inl sb_6))] H_6 := hP.sub [0, 1, 2] rfl
    have hD : va_D A [(a_pw, .inr (6, [.ref a_st, .int wo_6, .int wb_6])), (a_st, .inr (7, [.ref a_stb, .int sc_6])), (a_stb, .inl (cB, 8000, .inl sb_6))] := hD.sub [0, 1, 2] (by decide) rfl
    refine lv_goto (tgt := 37) hx hb dX6_writeMode_11 (by decide) ?_
    exact hret (wo_6, wb_6, sc_6, sb_6) _ _ _ _ dX6_writeMode_37 h hP hD hS
abbrev wd_pw_st_stb_pll (cI cB : ClassId) (a_pw a_st a_stb a_pll : Nat) (wo : Int32) (wb : Int32) (sc : Int32) (sb : (Nat → Int32)) (lv : (Nat → Int32)) : va_W := [(a_pw, .inr (6, [.ref a_st, .int wo, .int wb])), (a_st, .inr (7, [.ref a_stb, .int sc])), (a_stb, .inl (cB, 8000, .inl sb)), (a_pll, .inl (cI, 1024, .inl lv))]
def wl_X6_writeLevels_5 (v2 : Int32) (lv : (Nat → Int32)) (K : Int32 → Int32 → Int32 → (Nat → Int32) → Prop) (X : Int32 → Int32 → Prop) : Nat → Int32 → Int32 → Prop
  | 0, _, _ => False
  | n + 1, v3, v4 => ((16 ≤ v4 → X v3 v4) ∧ (¬ 16 ≤ v4 → vp_in (v2 + v4) 1024 ∧ jn1 (fun (v3_3 : Int32) => ∀ x4_4 : Int32, x4_4 = v4 + 1 → wl_X6_writeLevels_5 v2 lv K X n v3_3 x4_4) (fun J_3 => (((jat lv (v2 + v4)) = 0 → J_3 v3) ∧ (¬ (jat lv (v2 + v4)) = 0 → ∀ x3_6 : Int32, x3_6 = v3 + 1 → J_3 x3_6)))))
def wl_X6_writeLevels_41 (v2 : Int32) (lv : (Nat → Int32)) (K : Int32 → Int32 → Int32 → (Nat → Int32) → Prop) (X : Int32 → Int32 → Int32 → Int32 → Int32 → (Nat → Int32) → Prop) : Nat → Int32 → Int32 → Int32 → Int32 → Int32 → (Nat → Int32) → Prop
  | 0, _, _, _, _, _, _ => False
  | n + 1, v4, v5, wo, wb, sc, sb => ((16 ≤ v5 → X v4 v5 wo wb sc sb) ∧ (¬ 16 ≤ v5 → vp_in (v2 + v5) 1024 ∧ ∀ x6_11 : Int32, x6_11 = jat lv (v2 + v5) → jn5 (fun (v4_12 : Int32) (wo_12 : Int32) (wb_12 : Int32) (sc_12 : Int32) (sb_12 : (Nat → Int32)) => ∀ x5_13 : Int32, x5_13 = v5 + 1 → wl_X6_writeLevels_41 v2 lv K X n v4_12 x5_13 wo_12 wb_12 sc_12 sb_12) (fun J_12 => ((x6_11 = 0 → ∀ x4_19 : Int32, x4_19 = v4 + 1 → J_12 x4_19 wo wb sc sb) ∧ (¬ x6_11 = 0 → wp_X6_writeNumber wo wb sc sb v4 (fun (wo_15 : Int32) (wb_15 : Int32) (sc_15 : Int32) (sb_15 : (Nat → Int32)) => jn1 (fun (t0_16 : Int32) => wp_X6_writeNumber wo_15 wb_15 sc_15 sb_15 t0_16 (fun (wo_17 : Int32) (wb_17 : Int32) (sc_17 : Int32) (sb_17 : (Nat → Int32)) => J_12 0 wo_17 wb_17 sc_17 sb_17)) (fun J_16 => ((x6_11 ≤ 0 → J_16 ((-2) * x6_11)) ∧ (¬ x6_11 ≤ 0 → J_16 ((2 * x6_11) - 1))))))))))
def wp_X6_writeLevels (wo : Int32) (wb : Int32) (sc : Int32) (sb : (Nat → Int32)) (lv : (Nat → Int32)) (v2 : Int32) (K : Int32 → Int32 → Int32 → (Nat → Int32) → Prop) : Prop := ∃ k : Nat, wl_X6_writeLevels_5 v2 lv K (fun (v3_7 : Int32) (v4_7 : Int32) => wp_X6_writeNumber wo wb sc sb v3_7 (fun (wo_8 : Int32) (wb_8 : Int32) (sc_8 : Int32) (sb_8 : (Nat → Int32)) => ∃ k : Nat, wl_X6_writeLevels_41 v2 lv K (fun (v4_20 : Int32) (v5_20 : Int32) (wo_20 : Int32) (wb_20 : Int32) (sc_20 : Int32) (sb_20 : (Nat → Int32)) => K wo_20 wb_20 sc_20 sb_20) k 0 0 wo_8 wb_8 sc_8 sb_8)) k 0 0
abbrev jw_X6_writeLevels : List Cond := .code yX6_writeLevels cX6_writeLevels 7 none :: jmAll
abbrev rmX6_writeLevels : Room := { frames := 4, cells := 0, slots := 0, locals := 88 }
set_option maxHeartbeats 4000000 in
set_option maxRecDepth 100000 in
theorem c_X6_writeLevels (l : Launch) (D : va_G) (cI cB : ClassId) (tt : Nat × Nat × Nat) (a_pw a_st a_stb a_pll : Nat) (sz : Nat) (wo : Int32) (wb : Int32) (sc : Int32) (sb : (Nat → Int32)) (lv : (Nat → Int32)) (v2 : Int32) {K : Int32 → Int32 → Int32 → (Nat → Int32) → Prop} (h : wp_X6_writeLevels wo wb sc sb lv v2 K) : Met l yX6_writeLevels jw_X6_writeLevels rmX6_writeLevels (va_Pc [.ref a_pw, .ref a_pll, .int v2] (jm_Pre D cI cB tt (wd_pw_st_stb_pll cI cB a_pw a_st a_stb a_pll wo wb sc sb lv) sz)) (va_Qv (fun (u : Int32 × Int32 × Int32 × (Nat → Int32)) => pr4 K u) (jm_Post D cI cB (wd_pw_st_stb_pll cI cB a_pw a_st a_stb a_pll wo wb sc sb lv) sz (fun (u : Int32 × Int32 × Int32 × (Nat → Int32)) => wd_pw_st_stb_pll cI cB a_pw a_st a_stb a_pll u.1 u.2.1 u.2.2.1 u.2.2.2 lv)) (va_A (wd_pw_st_stb_pll cI cB a_pw a_st a_stb a_pll wo wb sc sb lv) sz)) 0 0 (va_A (wd_pw_st_stb_pll cI cB a_pw a_st a_stb a_pll wo wb sc sb lv) sz) := by
  refine jm_metV (by decide +kernel) rfl rfl (Nat.le_of_ble_eq_true rfl) ?_
  intro p e s m args below meth c A Q ls C0 hP hD hl hret
  obtain ⟨hx, hb, hml, hr, hown, hts, hlocks, hA, hK, hE⟩ := C0
  have hS : va_S A s.heap s.heap [] := va_S.rf
  have hl : lv_has ls 7 [(0, .ref a_pw), (1, .ref a_pll), (2, .int v2)] := hl
  unfold wp_X6_writeLevels at h
  have hP : va_P D vwCl [(a_pw, .inr (6, [.ref a_st, .int wo, .int wb])), (a_st, .inr (7, [.ref a_stb, .int sc])), (a_stb, .inl (cB, 8000, .inl sb)), (a_pll, .inl (cI, 1024, .inl lv))] s.heap := hP
  have hD : va_D A [(a_pw, .inr (6, [.ref a_st, .int wo, .int wb])), (a_st, .inr (7, [.ref a_stb, .int sc])), (a_stb, .inl (cB, 8000, .inl sb)), (a_pll, .inl (cI, 1024, .inl lv))] := hD
  refine lv_iconst (v := 0) hx hb dX6_writeLevels_0 (by decide) ?_
  refine lv_istore_n (lv' := [(3, .int 0), (0, .ref a_pw), (1, .ref a_pll), (2, .int v2)]) hx hb dX6_writeLevels_1 rfl hl (by decide) rfl (fun ls hl => ?_)
  refine lv_iconst (v := 0) hx hb dX6_writeLevels_2 (by decide) ?_
  refine lv_istore (lv' := [(4, .int 0), (3, .int 0), (0, .ref a_pw), (1, .ref a_pll), (2, .int v2)]) hx hb dX6_writeLevels_3 hl (by decide) rfl (fun ls hl => ?_)
  obtain ⟨n_7, h⟩ := h
  have hL_7 : ∀ (v2 : Int32) (wo : Int32) (wb : Int32) (sc : Int32) (sb : (Nat → Int32)) (X : Int32 → Int32 → Prop), (∀ (v3 : Int32) (v4 : Int32), ∀ (H : Heap) (locs : List Loc) (ls : Array Slot), X v3 v4 → va_P D vwCl [(a_pw, .inr (6, [.ref a_st, .int wo, .int wb])), (a_st, .inr (7, [.ref a_stb, .int sc])), (a_stb, .inl (cB, 8000, .inl sb)), (a_pll, .inl (cI, 1024, .inl lv))] H → va_D A [(a_pw, .inr (6, [.ref a_st, .int wo, .int wb])), (a_st, .inr (7, [.ref a_stb, .int sc])), (a_stb, .inl (cB, 8000, .inl sb)), (a_pll, .inl (cI, 1024, .inl lv))] → va_S A s.heap H locs → lv_has ls 7 [(0, .ref a_pw), (1, .ref a_pll), (2, .int v2), (3, .int v3), (4, .int v4)] → W p l e rmX6_writeLevels s m args below meth c H locs 0 0 Q (F0 m 30 ls [])) → ∀ (n : Nat) (v3 : Int32) (v4 : Int32), ∀ (H : Heap) (locs : List Loc) (ls : Array Slot), wl_X6_writeLevels_5 v2 lv K X n v3 v4 → va_P D vwCl [(a_pw, .inr (6, [.ref a_st, .int wo, .int wb])), (a_st, .inr (7, [.ref a_stb, .int sc])), (a_stb, .inl (cB, 8000, .inl sb)), (a_pll, .inl (cI, 1024, .inl lv))] H → va_D A [(a_pw, .inr (6, [.ref a_st, .int wo, .int wb])), (a_st, .inr (7, [.ref a_stb, .int sc])), (a_stb, .inl (cB, 8000, .inl sb)), (a_pll, .inl (cI, 1024, .inl lv))] → va_S A s.heap H locs → lv_has ls 7 [(0, .ref a_pw), (1, .ref a_pll), (2, .int v2), (3, .int v3), (4, .int v4)] → W p l e rmX6_writeLevels s m args below meth c H locs 0 0 Q (F0 m 5 ls []) := by
    intro v2 wo wb sc sb X hX n
    induction n with
    | zero => intro v3 v4 H locs ls h; rw [wl_X6_writeLevels_5] at h; exact h.elim
    | succ n ih =>
      intro v3 v4 H locs ls h hP hD hS hl
      rw [wl_X6_writeLevels_5] at h
      refine lv_iload hx hb dX6_writeLevels_5 (lv_at hl 4 rfl) ?_
      refine lv_bipush (v := 16) hx hb dX6_writeLevels_7 (by decide) ?_
      refine lv_icmp_ge (tgt := 30) hx hb dX6_writeLevels_9 (by decide) (fun c_1 => ?_) (fun c_1 => ?_)
      · have h := h.1 c_1
        exact hX v3 v4 H _ _ h hP hD hS (lv_sub hl [0, 1, 2, 3, 4] rfl)
      · have h := h.2 c_1
        refine lv_aload_n hx hb dX6_writeLevels_12 rfl (lv_at hl 1 rfl) ?_
        refine lv_iload_n hx hb dX6_writeLevels_13 rfl (lv_at hl 2 rfl) ?_
        refine lv_iload hx hb dX6_writeLevels_14 (lv_at hl 4 rfl) ?_
        refine lv_iadd hx hb dX6_writeLevels_16 ?_
        obtain ⟨hi_2, h⟩ := h
        refine va_iald hx hb hK hP 3 0 rfl rfl hi_2 dX6_writeLevels_17 ?_
        obtain ⟨J_3, hj_3, h⟩ := jn1_out h
        have hJ_3 : ∀ (v3_3 : Int32), ∀ (H : Heap) (locs : List Loc) (ls : Array Slot), J_3 v3_3 → va_P D vwCl [(a_pw, .inr (6, [.ref a_st, .int wo, .int wb])), (a_st, .inr (7, [.ref a_stb, .int sc])), (a_stb, .inl (cB, 8000, .inl sb)), (a_pll, .inl (cI, 1024, .inl lv))] H → va_D A [(a_pw, .inr (6, [.ref a_st, .int wo, .int wb])), (a_st, .inr (7, [.ref a_stb, .int sc])), (a_stb, .inl (cB, 8000, .inl sb)), (a_pll, .inl (cI, 1024, .inl lv))] → va_S A s.heap H locs → lv_has ls 7 [(0, .ref a_pw), (1, .ref a_pll), (2, .int v2), (3, .int v3_3), (4, .int v4)] → W p l e rmX6_writeLevels s m args below meth c H locs 0 0 Q (F0 m 24 ls []) := by
          intro v3_3 H locs ls h hP hD hS hl
          have h := hj_3 v3_3 h
          obtain ⟨x4_4, ex4_4⟩ : ∃ y : Int32, y = v4 + 1 := ⟨_, rfl⟩
          have h := h x4_4 ex4_4
          refine lv_iinc (v := x4_4) (lv' := [(4, .int x4_4), (0, .ref a_pw), (1, .ref a_pll), (2, .int v2), (3, .int v3_3)]) hx hb dX6_writeLevels_24 hl (k := 4) rfl (by rw [ex4_4]; rfl) (by decide) rfl (fun ls hl => ?_)
          refine lv_goto (tgt := 5) hx hb dX6_writeLevels_27 (by decide) ?_
          exact ih v3_3 x4_4 H _ _ h hP hD hS (lv_sub hl [1, 2, 3, 4, 0] rfl)
        refine lv_if_eq (tgt := 24) hx hb dX6_writeLevels_18 (by decide) (fun c_5 => ?_) (fun c_5 => ?_)
        · have h := h.1 c_5
          exact hJ_3 v3 H _ _ h hP hD hS (lv_sub hl [0, 1, 2, 3, 4] rfl)
        · have h := h.2 c_5
          obtain ⟨x3_6, ex3_6⟩ : ∃ y : Int32, y = v3 + 1 := ⟨_, rfl⟩
          have h := h x3_6 ex3_6
          refine lv_iinc (v := x3_6) (lv' := [(3, .int x3_6), (0, .ref a_pw), (1, .ref a_pll), (2, .int v2), (4, .int v4)]) hx hb dX6_writeLevels_21 hl (k := 3) rfl (by rw [ex3_6]; rfl) (by decide) rfl (fun ls hl => ?_)
          exact hJ_3 x3_6 H _ _ h hP hD hS (lv_sub hl [1, 2, 3, 0, 4] rfl)
  refine hL_7 v2 wo wb sc sb _ ?_ n_7 0 0 s.heap _ _ h hP hD hS (lv_sub hl [2, 3, 4, 1, 0] rfl)
  intro v3_7 v4_7 H locs ls h hP hD hS hl
  refine lv_aload_n hx hb dX6_writeLevels_30 rfl (lv_at hl 0 rfl) ?_
  refine lv_iload_n hx hb dX6_writeLevels_31 rfl (lv_at hl 3 rfl) ?_
  have hPc := hP.sub (ws' := [(a_pw, .inr (6, [.ref a_st, .int wo, .int wb])), (a_st, .inr (7, [.ref a_stb, .int sc])), (a_stb, .inl (cB, 8000, .inl sb))]) [0, 1, 2] rfl
  have hDc := hD.sub (ws' := [(a_pw, .inr (6, [.ref a_st, .int wo, .int wb])), (a_st, .inr (7, [.ref a_stb, .int sc])), (a_stb, .inl (cB, 8000, .inl sb))]) [0, 1, 2] (by decide) rfl
  have hFc := va_free (wc := [(a_pw, .inr (6, [.ref a_st, .int wo, .int wb])), (a_st, .inr (7, [.ref a_stb, .int sc])), (a_stb, .inl (cB, 8000, .inl sb))]) hD hS hA [0, 1, 2] rfl
  refine jm_callv (wr := [(a_pll, .inl (cI, 1024, .inl lv))]) (va_runV (As := [.int v3_7]) (rest := []) ⟨hx, hb, hml, hown, hts⟩ (c_X6_writeNumber l D cI cB tt a_pw a_st a_stb H.size wo wb sc sb v3_7 h) (cwV 1 hts (jm_gV mw_638 mw_640 mw_21 mw_61 mw_641) rfl rfl rfl (by decide +kernel) ⟨Nat.le_of_ble_eq_true rfl, Nat.le_of_ble_eq_true rfl⟩) ⟨jm_blind, va_recv hK hPc (ci := 6) (q0 := 0) rfl rfl, jm_pre hK hE hS hPc hDc hFc _⟩ rfl rfl hl.1 rfl (lv_room (Nat.le_of_ble_eq_true rfl)) dX6_writeLevels_32 ⟨Nat.zero_le _, Nat.zero_le _⟩) hS hP hD [0, 1, 2] [3] rfl rfl (by decide) (by decide) hFc (fun u_8 H_8 locs hw hP hD hS => ?_)
  obtain ⟨wo_8, wb_8, sc_8, sb_8⟩ := u_8
  have h := pr4_out hw
  have hP : va_P D vwCl [(a_pw, .inr (6, [.ref a_st, .int wo_8, .int wb_8])), (a_st, .inr (7, [.ref a_stb, .int sc_8])), (a_stb, .inl (cB, 8000, .inl sb_8)), (a_pll, .inl (cI, 1024, .inl lv))] H_8 := hP.sub [1, 2, 3, 0] rfl
  have hD : va_D A [(a_pw, .inr (6, [.ref a_st, .int wo_8, .int wb_8])), (a_st, .inr (7, [.ref a_stb, .int sc_8])), (a_stb, .inl (cB, 8000, .inl sb_8)), (a_pll, .inl (cI, 1024, .inl lv))] := hD.sub [1, 2, 3, 0] (by decide) rfl
  refine lv_iconst (v := 0) hx hb dX6_writeLevels_35 (by decide) ?_
  refine lv_istore (lv' := [(4, .int 0), (0, .ref a_pw), (1, .ref a_pll), (2, .int v2), (3, .int v3_7)]) hx hb dX6_writeLevels_36 hl (by decide) rfl (fun ls hl => ?_)
  refine lv_iconst (v := 0) hx hb dX6_writeLevels_38 (by decide) ?_
  refine lv_istore (lv' := [(5, .int 0), (4, .int 0), (0, .ref a_pw), (1, .ref a_pll), (2, .int v2), (3, .int v3_7)]) hx hb dX6_writeLevels_39 hl (by decide) rfl (fun ls hl => ?_)
  obtain ⟨n_20, h⟩ := h
  have hL_20 : ∀ (v2 : Int32) (v3 : Int32) (X : Int32 → Int32 → Int32 → Int32 → Int32 → (Nat → Int32) → Prop), (∀ (v4 : Int32) (v5 : Int32) (wo : Int32) (wb : Int32) (sc : Int32) (sb : (Nat → Int32)), ∀ (H : Heap) (locs : List Loc) (ls : Array Slot), X v4 v5 wo wb sc sb → va_P D vwCl [(a_pw, .inr (6, [.ref a_st, .int wo, .int wb])), (a_st, .inr (7, [.ref a_stb, .int sc])), (a_stb, .inl (cB, 8000, .inl sb)), (a_pll, .inl (cI, 1024, .inl lv))] H → va_D A [(a_pw, .inr (6, [.ref a_st, .int wo, .int wb])), (a_st, .inr (7, [.ref a_stb, .int sc])), (a_stb, .inl (cB, 8000, .inl sb)), (a_pll, .inl (cI, 1024, .inl lv))] → va_S A s.heap H locs → lv_has ls 7 [(0, .ref a_pw), (1, .ref a_pll), (2, .int v2), (3, .int v3), (4, .int v4), (5, .int v5)] → W p l e rmX6_writeLevels s m args below meth c H locs 0 0 Q (F0 m 105 ls [])) → ∀ (n : Nat) (v4 : Int32) (v5 : Int32) (wo : Int32) (wb : Int32) (sc : Int32) (sb : (Nat → Int32)), ∀ (H : Heap) (locs : List Loc) (ls : Array Slot), wl_X6_writeLevels_41 v2 lv K X n v4 v5 wo wb sc sb → va_P D vwCl [(a_pw, .inr (6, [.ref a_st, .int wo, .int wb])), (a_st, .inr (7, [.ref a_stb, .int sc])), (a_stb, .inl (cB, 8000, .inl sb)), (a_pll, .inl (cI, 1024, .inl lv))] H → va_D A [(a_pw, .inr (6, [.ref a_st, .int wo, .int wb])), (a_st, .inr (7, [.ref a_stb, .int sc])), (a_stb, .inl (cB, 8000, .inl sb)), (a_pll, .inl (cI, 1024, .inl lv))] → va_S A s.heap H locs → lv_has ls 7 [(0, .ref a_pw), (1, .ref a_pll), (2, .int v2), (3, .int v3), (4, .int v4), (5, .int v5)] → W p l e rmX6_writeLevels s m args below meth c H locs 0 0 Q (F0 m 41 ls []) := by
    intro v2 v3 X hX n
    induction n with
    | zero => intro v4 v5 wo wb sc sb H locs ls h; rw [wl_X6_writeLevels_41] at h; exact h.elim
    | succ n ih =>
      intro v4 v5 wo wb sc sb H locs ls h hP hD hS hl
      rw [wl_X6_writeLevels_41] at h
      refine lv_iload hx hb dX6_writeLevels_41 (lv_at hl 5 rfl) ?_
      refine lv_bipush (v := 16) hx hb dX6_writeLevels_43 (by decide) ?_
      refine lv_icmp_ge (tgt := 105) hx hb dX6_writeLevels_45 (by decide) (fun c_9 => ?_) (fun c_9 => ?_)
      · have h := h.1 c_9
        exact hX v4 v5 wo wb sc sb H _ _ h hP hD hS (lv_sub hl [0, 1, 2, 3, 4, 5] rfl)
      · have h := h.2 c_9
        refine lv_aload_n hx hb dX6_writeLevels_48 rfl (lv_at hl 1 rfl) ?_
        refine lv_iload_n hx hb dX6_writeLevels_49 rfl (lv_at hl 2 rfl) ?_
        refine lv_iload hx hb dX6_writeLevels_50 (lv_at hl 5 rfl) ?_
        refine lv_iadd hx hb dX6_writeLevels_52 ?_
        obtain ⟨hi_10, h⟩ := h
        refine va_iald hx hb hK hP 3 0 rfl rfl hi_10 dX6_writeLevels_53 ?_
        refine lv_topi (fun x6_11 ex6_11 => ?_)
        have h := h x6_11 ex6_11
        refine lv_istore (lv' := [(6, .int x6_11), (0, .ref a_pw), (1, .ref a_pll), (2, .int v2), (3, .int v3), (4, .int v4), (5, .int v5)]) hx hb dX6_writeLevels_54 hl (by decide) rfl (fun ls hl => ?_)
        refine lv_iload hx hb dX6_writeLevels_56 (lv_at hl 0 rfl) ?_
        obtain ⟨J_12, hj_12, h⟩ := jn5_out h
        have hJ_12 : ∀ (v4_12 : Int32) (wo_12 : Int32) (wb_12 : Int32) (sc_12 : Int32) (sb_12 : (Nat → Int32)), ∀ (H : Heap) (locs : List Loc) (ls : Array Slot), J_12 v4_12 wo_12 wb_12 sc_12 sb_12 → va_P D vwCl [(a_pw, .inr (6, [.ref a_st, .int wo_12, .int wb_12])), (a_st, .inr (7, [.ref a_stb, .int sc_12])), (a_stb, .inl (cB, 8000, .inl sb_12)), (a_pll, .inl (cI, 1024, .inl lv))] H → va_D A [(a_pw, .inr (6, [.ref a_st, .int wo_12, .int wb_12])), (a_st, .inr (7, [.ref a_stb, .int sc_12])), (a_stb, .inl (cB, 8000, .inl sb_12)), (a_pll, .inl (cI, 1024, .inl lv))] → va_S A s.heap H locs → lv_has ls 7 [(0, .ref a_pw), (1, .ref a_pll), (2, .int v2), (3, .int v3), (4, .int v4_12), (5, .int v5), (6, .int x6_11)] → W p l e rmX6_writeLevels s m args below meth c H locs 0 0 Q (F0 m 99 ls []) := by
          intro v4_12 wo_12 wb_12 sc_12 sb_12 H locs ls h hP hD hS hl
          have h := hj_12 v4_12 wo_12 wb_12 sc_12 sb_12 h
          obtain ⟨x5_13, ex5_13⟩ : ∃ y : Int32, y = v5 + 1 := ⟨_, rfl⟩
          have h := h x5_13 ex5_13
          refine lv_iinc (v := x5_13) (lv' := [(5, .int x5_13), (0, .ref a_pw), (1, .ref a_pll), (2, .int v2), (3, .int v3), (4, .int v4_12), (6, .int x6_11)]) hx hb dX6_writeLevels_99 hl (k := 5) rfl (by rw [ex5_13]; rfl) (by decide) rfl (fun ls hl => ?_)
          refine lv_goto (tgt := 41) hx hb dX6_writeLevels_102 (by decide) ?_
          exact ih v4_12 x5_13 wo_12 wb_12 sc_12 sb_12 H _ _ h hP hD hS (lv_sub hl [1, 2, 3, 4, 5, 0] rfl)
        refine lv_if_ne (tgt := 67) hx hb dX6_writeLevels_58 (by decide) (fun c_14 => ?_) (fun c_14 => ?_)
        · have h := h.2 c_14
          refine lv_aload_n hx hb dX6_writeLevels_67 rfl (lv_at hl 1 rfl) ?_
          refine lv_iload hx hb dX6_writeLevels_68 (lv_at hl 5 rfl) ?_
          have hPc := hP.sub (ws' := [(a_pw, .inr (6, [.ref a_st, .int wo, .int wb])), (a_st, .inr (7, [.ref a_stb, .int sc])), (a_stb, .inl (cB, 8000, .inl sb))]) [0, 1, 2] rfl
          have hDc := hD.sub (ws' := [(a_pw, .inr (6, [.ref a_st, .int wo, .int wb])), (a_st, .inr (7, [.ref a_stb, .int sc])), (a_stb, .inl (cB, 8000, .inl sb))]) [0, 1, 2] (by decide) rfl
          have hFc := va_free (wc := [(a_pw, .inr (6, [.ref a_st, .int wo, .int wb])), (a_st, .inr (7, [.ref a_stb, .int sc])), (a_stb, .inl (cB, 8000, .inl sb))]) hD hS hA [0, 1, 2] rfl
          refine jm_callv (wr := [(a_pll, .inl (cI, 1024, .inl lv))]) (va_runV (As := [.int v4]) (rest := []) ⟨hx, hb, hml, hown, hts⟩ (c_X6_writeNumber l D cI cB tt a_pw a_st a_stb H.size wo wb sc sb v4 h) (cwV 1 hts (jm_gV mw_638 mw_640 mw_21 mw_61 mw_641) rfl rfl rfl (by decide +kernel) ⟨Nat.le_of_ble_eq_true rfl, Nat.le_of_ble_eq_true rfl⟩) ⟨jm_blind, va_recv hK hPc (ci := 6) (q0 := 0) rfl rfl, jm_pre hK hE hS hPc hDc hFc _⟩ rfl rfl hl.1 rfl (lv_room (Nat.le_of_ble_eq_true rfl)) dX6_writeLevels_70 ⟨Nat.zero_le _, Nat.zero_le _⟩) hS hP hD [0, 1, 2] [3] rfl rfl (by decide) (by decide) hFc (fun u_15 H_15 locs hw hP hD hS => ?_)
          obtain ⟨wo_15, wb_15, sc_15, sb_15⟩ := u_15
          have h := pr4_out hw
          have hP : va_P D vwCl [(a_pw, .inr (6, [.ref a_st, .int wo_15, .int wb_15])), (a_st, .inr (7, [.ref a_stb, .int sc_15])), (a_stb, .inl (cB, 8000, .inl sb_15)), (a_pll, .inl (cI, 1024, .inl lv))] H_15 := hP.sub [1, 2, 3, 0] rfl
          have hD : va_D A [(a_pw, .inr (6, [.ref a_st, .int wo_15, .int wb_15])), (a_st, .inr (7, [.ref a_stb, .int sc_15])), (a_stb, .inl (cB, 8000, .inl sb_15)), (a_pll, .inl (cI, 1024, .inl lv))] := hD.sub [1, 2, 3, 0] (by decide) rfl
          refine lv_aload_n hx hb dX6_writeLevels_73 rfl (lv_at hl 1 rfl) ?_
          refine lv_iload hx hb dX6_writeLevels_74 (lv_at hl 0 rfl) ?_
          obtain ⟨J_16, hj_16, h⟩ := jn1_out h
          have hJ_16 : ∀ (t0_16 : Int32), ∀ (H : Heap) (locs : List Loc) (ls : Array Slot), J_16 t0_16 → va_P D vwCl [(a_pw, .inr (6, [.ref a_st, .int wo_15, .int wb_15])), (a_st, .inr (7, [.ref a_stb, .int sc_15])), (a_stb, .inl (cB, 8000, .inl sb_15)), (a_pll, .inl (cI, 1024, .inl lv))] H → va_D A [(a_pw, .inr (6, [.ref a_st, .int wo_15, .int wb_15])), (a_st, .inr (7, [.ref a_stb, .int sc_15])), (a_stb, .inl (cB, 8000, .inl sb_15)), (a_pll, .inl (cI, 1024, .inl lv))] → va_S A s.heap H locs → lv_has ls 7 [(0, .ref a_pw), (1, .ref a_pll), (2, .int v2), (3, .int v3), (4, .int v4), (5, .int v5), (6, .int x6_11)] → W p l e rmX6_writeLevels s m args below meth c H locs 0 0 Q (F0 m 93 ls [.int t0_16, .ref a_pw]) := by
            intro t0_16 H locs ls h hP hD hS hl
            have h := hj_16 t0_16 h
            have hPc := hP.sub (ws' := [(a_pw, .inr (6, [.ref a_st, .int wo_15, .int wb_15])), (a_st, .inr (7, [.ref a_stb, .int sc_15])), (a_stb, .inl (cB, 8000, .inl sb_15))]) [0, 1, 2] rfl
            have hDc := hD.sub (ws' := [(a_pw, .inr (6, [.ref a_st, .int wo_15, .int wb_15])), (a_st, .inr (7, [.ref a_stb, .int sc_15])), (a_stb, .inl (cB, 8000, .inl sb_15))]) [0, 1, 2] (by decide) rfl
            have hFc := va_free (wc := [(a_pw, .inr (6, [.ref a_st, .int wo_15, .int wb_15])), (a_st, .inr (7, [.ref a_stb, .int sc_15])), (a_stb, .inl (cB, 8000, .inl sb_15))]) hD hS hA [0, 1, 2] rfl
            refine jm_callv (wr := [(a_pll, .inl (cI, 1024, .inl lv))]) (va_runV (As := [.int t0_16]) (rest := []) ⟨hx, hb, hml, hown, hts⟩ (c_X6_writeNumber l D cI cB tt a_pw a_st a_stb H.size wo_15 wb_15 sc_15 sb_15 t0_16 h) (cwV 1 hts (jm_gV mw_638 mw_640 mw_21 mw_61 mw_641) rfl rfl rfl (by decide +kernel) ⟨Nat.le_of_ble_eq_true rfl, Nat.le_of_ble_eq_true rfl⟩) ⟨jm_blind, va_recv hK hPc (ci := 6) (q0 := 0) rfl rfl, jm_pre hK hE hS hPc hDc hFc _⟩ rfl rfl hl.1 rfl (lv_room (Nat.le_of_ble_eq_true rfl)) dX6_writeLevels_93 ⟨Nat.zero_le _, Nat.zero_le _⟩) hS hP hD [0, 1, 2] [3] rfl rfl (by decide) (by decide) hFc (fun u_17 H_17 locs hw hP hD hS => ?_)
            obtain ⟨wo_17, wb_17, sc_17, sb_17⟩ := u_17
            have h := pr4_out hw
            have hP : va_P D vwCl [(a_pw, .inr (6, [.ref a_st, .int wo_17, .int wb_17])), (a_st, .inr (7, [.ref a_stb, .int sc_17])), (a_stb, .inl (cB, 8000, .inl sb_17)), (a_pll, .inl (cI, 1024, .inl lv))] H_17 := hP.sub [1, 2, 3, 0] rfl
            have hD : va_D A [(a_pw, .inr (6, [.ref a_st, .int wo_17, .int wb_17])), (a_st, .inr (7, [.ref a_stb, .int sc_17])), (a_stb, .inl (cB, 8000, .inl sb_17)), (a_pll, .inl (cI, 1024, .inl lv))] := hD.sub [1, 2, 3, 0] (by decide) rfl
            refine lv_iconst (v := 0) hx hb dX6_writeLevels_96 (by decide) ?_
            refine lv_istore (lv' := [(4, .int 0), (0, .ref a_pw), (1, .ref a_pll), (2, .int v2), (3, .int v3), (5, .int v5), (6, .int x6_11)]) hx hb dX6_writeLevels_97 hl (by decide) rfl (fun ls hl => ?_)
            exact hJ_12 0 wo_17 wb_17 sc_17 sb_17 H_17 _ _ h hP hD hS (lv_sub hl [1, 2, 3, 4, 0, 5, 6] rfl)
          refine lv_if_le (tgt := 88) hx hb dX6_writeLevels_76 (by decide) (fun c_18 => ?_) (fun c_18 => ?_)
          · have h := h.1 c_18
            refine lv_bipush (v := (-2)) hx hb dX6_writeLevels_88 (by decide) ?_
            refine lv_iload hx hb dX6_writeLevels_90 (lv_at hl 0 rfl) ?_
            refine lv_imul hx hb dX6_writeLevels_92 ?_
            exact hJ_16 ((-2) * x6_11) H_15 _ _ h hP hD hS (lv_sub hl [1, 2, 3, 4, 5, 6, 0] rfl)
          · have h := h.2 c_18
            refine lv_iconst (v := 2) hx hb dX6_writeLevels_79 (by decide) ?_
            refine lv_iload hx hb dX6_writeLevels_80 (lv_at hl 0 rfl) ?_
            refine lv_imul hx hb dX6_writeLevels_82 ?_
            refine lv_iconst (v := 1) hx hb dX6_writeLevels_83 (by decide) ?_
            refine lv_isub hx hb dX6_writeLevels_84 ?_
            refine lv_goto (tgt := 93) hx hb dX6_writeLevels_85 (by decide) ?_
            exact hJ_16 ((2 * x6_11) - 1) H_15 _ _ h hP hD hS (lv_sub hl [1, 2, 3, 4, 5, 6, 0] rfl)
        · have h := h.1 c_14
          obtain ⟨x4_19, ex4_19⟩ : ∃ y : Int32, y = v4 + 1 := ⟨_, rfl⟩
          have h := h x4_19 ex4_19
          refine lv_iinc (v := x4_19) (lv' := [(4, .int x4_19), (6, .int x6_11), (0, .ref a_pw), (1, .ref a_pll), (2, .int v2), (3, .int v3), (5, .int v5)]) hx hb dX6_writeLevels_61 hl (k := 5) rfl (by rw [ex4_19]; rfl) (by decide) rfl (fun ls hl => ?_)
          refine lv_goto (tgt := 99) hx hb dX6_writeLevels_64 (by decide) ?_
          exact hJ_12 x4_19 wo wb sc sb H _ _ h hP hD hS (lv_sub hl [2, 3, 4, 5, 0, 6, 1] rfl)
  refine hL_20 v2 v3_7 _ ?_ n_20 0 0 wo_8 wb_8 sc_8 sb_8 H_8 _ _ h hP hD hS (lv_sub hl [2, 3, 4, 5, 1, 0] rfl)
  intro v4_20 v5_20 wo_20 wb_20 sc_20 sb_20 H locs ls h hP hD hS hl
  exact hret (wo_20, wb_20, sc_20, sb_20) _ _ _ _ dX6_writeLevels_105 h hP hD hS
abbrev wd_pw_st_stb_pl_plm_pll (cI cB : ClassId) (a_pw a_st a_stb a_pl a_plm a_pll : Nat) (wo : Int32) (wb : Int32) (sc : Int32) (sb : (Nat → Int32)) (la : Int32) (ld : Int32) (lq : Int32) (lz : Int32) (lm : (Nat → Int32)) (lv : (Nat → Int32)) : va_W := [(a_pw, .inr (6, [.ref a_st, .int wo, .int wb])), (a_st, .inr (7, [.ref a_stb, .int sc])), (a_stb, .inl (cB, 8000, .inl sb)), (a_pl, .inr (4, [.ref a_plm, .ref a_pll, .int la, .int ld, .int lq, .int lz])), (a_plm, .inl (cI, 64, .inl lm)), (a_pll, .inl (cI, 1024, .inl lv))]
def wl_X6_write_65 (la : Int32) (ld : Int32) (lm : (Nat → Int32)) (lv : (Nat → Int32)) (K : Int32 → Int32 → Int32 → (Nat → Int32) → Prop) (X : Int32 → Int32 → Int32 → Int32 → (Nat → Int32) → Prop) : Nat → Int32 → Int32 → Int32 → Int32 → (Nat → Int32) → Prop
  | 0, _, _, _, _, _ => False
  | n + 1, v2, wo, wb, sc, sb => wp_X4_blocks la ld (fun (r_9 : Int32) => ((r_9 ≤ v2 → X v2 wo wb sc sb) ∧ (¬ r_9 ≤ v2 → vp_in v2 64 ∧ wp_X4_likelyMode la lm v2 (fun (r_12 : Int32) => wp_X6_writeMode wo wb sc sb (jat lm v2) r_12 (fun (wo_13 : Int32) (wb_13 : Int32) (sc_13 : Int32) (sb_13 : (Nat → Int32)) => wp_X6_writeLevels wo_13 wb_13 sc_13 sb_13 lv (16 * v2) (fun (wo_14 : Int32) (wb_14 : Int32) (sc_14 : Int32) (sb_14 : (Nat → Int32)) => ∀ x2_15 : Int32, x2_15 = v2 + 1 → wl_X6_write_65 la ld lm lv K X n x2_15 wo_14 wb_14 sc_14 sb_14))))))
def wp_X6_write (wo : Int32) (wb : Int32) (sc : Int32) (sb : (Nat → Int32)) (la : Int32) (ld : Int32) (lq : Int32) (lz : Int32) (lm : (Nat → Int32)) (lv : (Nat → Int32)) (K : Int32 → Int32 → Int32 → (Nat → Int32) → Prop) : Prop := wp_X6_writeNumber 0 0 0 sb (la - 1) (fun (wo_4 : Int32) (wb_4 : Int32) (sc_4 : Int32) (sb_4 : (Nat → Int32)) => wp_X6_writeNumber wo_4 wb_4 sc_4 sb_4 (ld - 1) (fun (wo_5 : Int32) (wb_5 : Int32) (sc_5 : Int32) (sb_5 : (Nat → Int32)) => wp_X6_writeNumber wo_5 wb_5 sc_5 sb_5 lq (fun (wo_6 : Int32) (wb_6 : Int32) (sc_6 : Int32) (sb_6 : (Nat → Int32)) => jn1 (fun (t0_7 : Int32) => wp_X6_writeBits wo_6 wb_6 sc_6 sb_6 t0_7 1 (fun (wo_8 : Int32) (wb_8 : Int32) (sc_8 : Int32) (sb_8 : (Nat → Int32)) => ∃ k : Nat, wl_X6_write_65 la ld lm lv K (fun (v2_16 : Int32) (wo_16 : Int32) (wb_16 : Int32) (sc_16 : Int32) (sb_16 : (Nat → Int32)) => ((wb_16 ≤ 0 → K wo_16 wb_16 sc_16 sb_16) ∧ (¬ wb_16 ≤ 0 → wp_X6_writeBits wo_16 wb_16 sc_16 sb_16 0 (8 - wb_16) (fun (wo_18 : Int32) (wb_18 : Int32) (sc_18 : Int32) (sb_18 : (Nat → Int32)) => K wo_18 wb_18 sc_18 sb_18)))) k 0 wo_8 wb_8 sc_8 sb_8)) (fun J_7 => ((lz = 0 → J_7 0) ∧ (¬ lz = 0 → J_7 1))))))
abbrev jw_X6_write : List Cond := .code yX6_write cX6_write 3 none :: jmAll
abbrev rmX6_write : Room := { frames := 5, cells := 0, slots := 0, locals := 114 }
set_option maxHeartbeats 4000000 in
set_option maxRecDepth 100000 in
theorem c_X6_write (l : Launch) (D : va_G) (cI cB : ClassId) (tt : Nat × Nat × Nat) (a_pw a_st a_stb a_pl a_plm a_pll : Nat) (sz : Nat) (wo : Int32) (wb : Int32) (sc : Int32) (sb : (Nat → Int32)) (la : Int32) (ld : Int32) (lq : Int32) (lz : Int32) (lm : (Nat → Int32)) (lv : (Nat → Int32)) {K : Int32 → Int32 → Int32 → (Nat → Int32) → Prop} (h : wp_X6_write wo wb sc sb la ld lq lz lm lv K) : Met l yX6_write jw_X6_write rmX6_write (va_Pc [.ref a_pw, .ref a_pl] (jm_Pre D cI cB tt (wd_pw_st_stb_pl_plm_pll cI cB a_pw a_st a_stb a_pl a_plm a_pll wo wb sc sb la ld lq lz lm lv) sz)) (va_Qv (fun (u : Int32 × Int32 × Int32 × (Nat → Int32)) => pr4 K u) (jm_Post D cI cB (wd_pw_st_stb_pl_plm_pll cI cB a_pw a_st a_stb a_pl a_plm a_pll wo wb sc sb la ld lq lz lm lv) sz (fun (u : Int32 × Int32 × Int32 × (Nat → Int32)) => wd_pw_st_stb_pl_plm_pll cI cB a_pw a_st a_stb a_pl a_plm a_pll u.1 u.2.1 u.2.2.1 u.2.2.2 la ld lq lz lm lv)) (va_A (wd_pw_st_stb_pl_plm_pll cI cB a_pw a_st a_stb a_pl a_plm a_pll wo wb sc sb la ld lq lz lm lv) sz)) 0 0 (va_A (wd_pw_st_stb_pl_plm_pll cI cB a_pw a_st a_stb a_pl a_plm a_pll wo wb sc sb la ld lq lz lm lv) sz) := by
  refine jm_metV (by decide +kernel) rfl rfl (Nat.le_of_ble_eq_true rfl) ?_
  intro p e s m args below meth c A Q ls C0 hP hD hl hret
  obtain ⟨hx, hb, hml, hr, hown, hts, hlocks, hA, hK, hE⟩ := C0
  have hS : va_S A s.heap s.heap [] := va_S.rf
  have hl : lv_has ls 3 [(0, .ref a_pw), (1, .ref a_pl)] := hl
  unfold wp_X6_write at h
  have hP : va_P D vwCl [(a_pw, .inr (6, [.ref a_st, .int wo, .int wb])), (a_st, .inr (7, [.ref a_stb, .int sc])), (a_stb, .inl (cB, 8000, .inl sb)), (a_pl, .inr (4, [.ref a_plm, .ref a_pll, .int la, .int ld, .int lq, .int lz])), (a_plm, .inl (cI, 64, .inl lm)), (a_pll, .inl (cI, 1024, .inl lv))] s.heap := hP
  have hD : va_D A [(a_pw, .inr (6, [.ref a_st, .int wo, .int wb])), (a_st, .inr (7, [.ref a_stb, .int sc])), (a_stb, .inl (cB, 8000, .inl sb)), (a_pl, .inr (4, [.ref a_plm, .ref a_pll, .int la, .int ld, .int lq, .int lz])), (a_plm, .inl (cI, 64, .inl lm)), (a_pll, .inl (cI, 1024, .inl lv))] := hD
  have iX4 : ∀ w ∈ wsX40, w ∈ jw_X6_write := fun w h => List.mem_cons_of_mem _ (jm_iX4 w h)
  have iX6 : ∀ w ∈ wsX60, w ∈ jw_X6_write := fun w h => List.mem_cons_of_mem _ (jm_iX6 w h)
  have iX7 : ∀ w ∈ wsX70, w ∈ jw_X6_write := fun w h => List.mem_cons_of_mem _ (jm_iX7 w h)
  have lk21 := hts (.fieldLink RX6 21 "IntraMill$PlanWriter" "open" "I") (List.mem_cons_of_mem _ mw_176)
  have lk24 := hts (.fieldLink RX6 24 "IntraMill$PlanWriter" "openBits" "I") (List.mem_cons_of_mem _ mw_177)
  have lk9 := hts (.fieldLink RX6 9 "IntraMill$PlanWriter" "store" "LIntraMill$Store;") (List.mem_cons_of_mem _ mw_175)
  refine lv_aload_n hx hb dX6_write_0 rfl (lv_at hl 0 rfl) ?_
  refine va_get (D := D) (ci := 6) (v := .ref a_st) (C := RX6) (T := TX6) (N := 3) hx hb hts iX6 hown hK hP 0 rfl rfl 0 (by decide) lk9 (fun _ h9 => h9) rfl dX6_write_1 ?_
  refine lv_iconst (v := 0) hx hb dX6_write_4 (by decide) ?_
  refine va_putN (D := D) (ci := 7) (v := .int 0) (ty := .int) (C := RX7) (T := TX7) (N := 2) hx hb hts iX7 tyX7 tyX7_ok nmX7 hown hK hP hD hS 1 rfl rfl 1 (by decide) (va_Nw.use rfl (hE.1 ("IntraMill$PlanWriter", 15, "IntraMill$Store", "count", "I") (List.mem_of_getElem? (i := 22) rfl))) (fun _ h9 => h9) rfl (by decide +kernel) rfl rfl (Nat.le_of_ble_eq_true rfl) dX6_write_5 (fun H_1 locs hP hD hS => ?_)
  have hP : va_P D vwCl [(a_pw, .inr (6, [.ref a_st, .int wo, .int wb])), (a_st, .inr (7, [.ref a_stb, .int 0])), (a_stb, .inl (cB, 8000, .inl sb)), (a_pl, .inr (4, [.ref a_plm, .ref a_pll, .int la, .int ld, .int lq, .int lz])), (a_plm, .inl (cI, 64, .inl lm)), (a_pll, .inl (cI, 1024, .inl lv))] H_1 := hP
  have hD : va_D A [(a_pw, .inr (6, [.ref a_st, .int wo, .int wb])), (a_st, .inr (7, [.ref a_stb, .int 0])), (a_stb, .inl (cB, 8000, .inl sb)), (a_pl, .inr (4, [.ref a_plm, .ref a_pll, .int la, .int ld, .int lq, .int lz])), (a_plm, .inl (cI, 64, .inl lm)), (a_pll, .inl (cI, 1024, .inl lv))] := hD
  refine lv_aload_n hx hb dX6_write_8 rfl (lv_at hl 0 rfl) ?_
  refine lv_iconst (v := 0) hx hb dX6_write_9 (by decide) ?_
  refine va_put (D := D) (ci := 6) (v := .int 0) (ty := .int) (C := RX6) (T := TX6) (N := 3) hx hb hts iX6 tyX6 tyX6_ok nmX6 hown hK hP hD hS 0 rfl rfl 1 (by decide) lk21 (fun _ h9 => h9) rfl (by decide +kernel) rfl rfl (Nat.le_of_ble_eq_true rfl) dX6_write_10 (fun H_2 locs hP hD hS => ?_)
  have hP : va_P D vwCl [(a_pw, .inr (6, [.ref a_st, .int 0, .int wb])), (a_st, .inr (7, [.ref a_stb, .int 0])), (a_stb, .inl (cB, 8000, .inl sb)), (a_pl, .inr (4, [.ref a_plm, .ref a_pll, .int la, .int ld, .int lq, .int lz])), (a_plm, .inl (cI, 64, .inl lm)), (a_pll, .inl (cI, 1024, .inl lv))] H_2 := hP
  have hD : va_D A [(a_pw, .inr (6, [.ref a_st, .int 0, .int wb])), (a_st, .inr (7, [.ref a_stb, .int 0])), (a_stb, .inl (cB, 8000, .inl sb)), (a_pl, .inr (4, [.ref a_plm, .ref a_pll, .int la, .int ld, .int lq, .int lz])), (a_plm, .inl (cI, 64, .inl lm)), (a_pll, .inl (cI, 1024, .inl lv))] := hD
  refine lv_aload_n hx hb dX6_write_13 rfl (lv_at hl 0 rfl) ?_
  refine lv_iconst (v := 0) hx hb dX6_write_14 (by decide) ?_
  refine va_put (D := D) (ci := 6) (v := .int 0) (ty := .int) (C := RX6) (T := TX6) (N := 3) hx hb hts iX6 tyX6 tyX6_ok nmX6 hown hK hP hD hS 0 rfl rfl 2 (by decide) lk24 (fun _ h9 => h9) rfl (by decide +kernel) rfl rfl (Nat.le_of_ble_eq_true rfl) dX6_write_15 (fun H_3 locs hP hD hS => ?_)
  have hP : va_P D vwCl [(a_pw, .inr (6, [.ref a_st, .int 0, .int 0])), (a_st, .inr (7, [.ref a_stb, .int 0])), (a_stb, .inl (cB, 8000, .inl sb)), (a_pl, .inr (4, [.ref a_plm, .ref a_pll, .int la, .int ld, .int lq, .int lz])), (a_plm, .inl (cI, 64, .inl lm)), (a_pll, .inl (cI, 1024, .inl lv))] H_3 := hP
  have hD : va_D A [(a_pw, .inr (6, [.ref a_st, .int 0, .int 0])), (a_st, .inr (7, [.ref a_stb, .int 0])), (a_stb, .inl (cB, 8000, .inl sb)), (a_pl, .inr (4, [.ref a_plm, .ref a_pll, .int la, .int ld, .int lq, .int lz])), (a_plm, .inl (cI, 64, .inl lm)), (a_pll, .inl (cI, 1024, .inl lv))] := hD
  refine lv_aload_n hx hb dX6_write_18 rfl (lv_at hl 0 rfl) ?_
  refine lv_aload_n hx hb dX6_write_19 rfl (lv_at hl 1 rfl) ?_
  refine va_getN (D := D) (ci := 4) (v := .int la) (C := RX4) (T := TX4) (N := 6) hx hb hts iX4 hown hK hP 3 rfl rfl 2 (by decide) (va_Nw.use rfl (hE.1 ("IntraMill$PlanWriter", 27, "IntraMill$Plan", "across", "I") (List.mem_of_getElem? (i := 23) rfl))) (fun _ h9 => h9) rfl dX6_write_20 ?_
  refine lv_iconst (v := 1) hx hb dX6_write_23 (by decide) ?_
  refine lv_isub hx hb dX6_write_24 ?_
  have hPc := hP.sub (ws' := [(a_pw, .inr (6, [.ref a_st, .int 0, .int 0])), (a_st, .inr (7, [.ref a_stb, .int 0])), (a_stb, .inl (cB, 8000, .inl sb))]) [0, 1, 2] rfl
  have hDc := hD.sub (ws' := [(a_pw, .inr (6, [.ref a_st, .int 0, .int 0])), (a_st, .inr (7, [.ref a_stb, .int 0])), (a_stb, .inl (cB, 8000, .inl sb))]) [0, 1, 2] (by decide) rfl
  have hFc := va_free (wc := [(a_pw, .inr (6, [.ref a_st, .int 0, .int 0])), (a_st, .inr (7, [.ref a_stb, .int 0])), (a_stb, .inl (cB, 8000, .inl sb))]) hD hS hA [0, 1, 2] rfl
  refine jm_callv (wr := [(a_pl, .inr (4, [.ref a_plm, .ref a_pll, .int la, .int ld, .int lq, .int lz])), (a_plm, .inl (cI, 64, .inl lm)), (a_pll, .inl (cI, 1024, .inl lv))]) (va_runV (As := [.int (la - 1)]) (rest := []) ⟨hx, hb, hml, hown, hts⟩ (c_X6_writeNumber l D cI cB tt a_pw a_st a_stb H_3.size 0 0 0 sb (la - 1) h) (cwV 1 hts (jm_gV mw_638 mw_640 mw_21 mw_61 mw_641) rfl rfl rfl (by decide +kernel) ⟨Nat.le_of_ble_eq_true rfl, Nat.le_of_ble_eq_true rfl⟩) ⟨jm_blind, va_recv hK hPc (ci := 6) (q0 := 0) rfl rfl, jm_pre hK hE hS hPc hDc hFc _⟩ rfl rfl hl.1 rfl (lv_room (Nat.le_of_ble_eq_true rfl)) dX6_write_25 ⟨Nat.zero_le _, Nat.zero_le _⟩) hS hP hD [0, 1, 2] [3, 4, 5] rfl rfl (by decide) (by decide) hFc (fun u_4 H_4 locs hw hP hD hS => ?_)
  obtain ⟨wo_4, wb_4, sc_4, sb_4⟩ := u_4
  have h := pr4_out hw
  have hP : va_P D vwCl [(a_pw, .inr (6, [.ref a_st, .int wo_4, .int wb_4])), (a_st, .inr (7, [.ref a_stb, .int sc_4])), (a_stb, .inl (cB, 8000, .inl sb_4)), (a_pl, .inr (4, [.ref a_plm, .ref a_pll, .int la, .int ld, .int lq, .int lz])), (a_plm, .inl (cI, 64, .inl lm)), (a_pll, .inl (cI, 1024, .inl lv))] H_4 := hP.sub [3, 4, 5, 0, 1, 2] rfl
  have hD : va_D A [(a_pw, .inr (6, [.ref a_st, .int wo_4, .int wb_4])), (a_st, .inr (7, [.ref a_stb, .int sc_4])), (a_stb, .inl (cB, 8000, .inl sb_4)), (a_pl, .inr (4, [.ref a_plm, .ref a_pll, .int la, .int ld, .int lq, .int lz])), (a_plm, .inl (cI, 64, .inl lm)), (a_pll, .inl (cI, 1024, .inl lv))] := hD.sub [3, 4, 5, 0, 1, 2] (by decide) rfl
  refine lv_aload_n hx hb dX6_write_28 rfl (lv_at hl 0 rfl) ?_
  refine lv_aload_n hx hb dX6_write_29 rfl (lv_at hl 1 rfl) ?_
  refine va_getN (D := D) (ci := 4) (v := .int ld) (C := RX4) (T := TX4) (N := 6) hx hb hts iX4 hown hK hP 3 rfl rfl 3 (by decide) (va_Nw.use rfl (hE.1 ("IntraMill$PlanWriter", 36, "IntraMill$Plan", "down", "I") (List.mem_of_getElem? (i := 24) rfl))) (fun _ h9 => h9) rfl dX6_write_30 ?_
  refine lv_iconst (v := 1) hx hb dX6_write_33 (by decide) ?_
  refine lv_isub hx hb dX6_write_34 ?_
  have hPc := hP.sub (ws' := [(a_pw, .inr (6, [.ref a_st, .int wo_4, .int wb_4])), (a_st, .inr (7, [.ref a_stb, .int sc_4])), (a_stb, .inl (cB, 8000, .inl sb_4))]) [0, 1, 2] rfl
  have hDc := hD.sub (ws' := [(a_pw, .inr (6, [.ref a_st, .int wo_4, .int wb_4])), (a_st, .inr (7, [.ref a_stb, .int sc_4])), (a_stb, .inl (cB, 8000, .inl sb_4))]) [0, 1, 2] (by decide) rfl
  have hFc := va_free (wc := [(a_pw, .inr (6, [.ref a_st, .int wo_4, .int wb_4])), (a_st, .inr (7, [.ref a_stb, .int sc_4])), (a_stb, .inl (cB, 8000, .inl sb_4))]) hD hS hA [0, 1, 2] rfl
  refine jm_callv (wr := [(a_pl, .inr (4, [.ref a_plm, .ref a_pll, .int la, .int ld, .int lq, .int lz])), (a_plm, .inl (cI, 64, .inl lm)), (a_pll, .inl (cI, 1024, .inl lv))]) (va_runV (As := [.int (ld - 1)]) (rest := []) ⟨hx, hb, hml, hown, hts⟩ (c_X6_writeNumber l D cI cB tt a_pw a_st a_stb H_4.size wo_4 wb_4 sc_4 sb_4 (ld - 1) h) (cwV 1 hts (jm_gV mw_638 mw_640 mw_21 mw_61 mw_641) rfl rfl rfl (by decide +kernel) ⟨Nat.le_of_ble_eq_true rfl, Nat.le_of_ble_eq_true rfl⟩) ⟨jm_blind, va_recv hK hPc (ci := 6) (q0 := 0) rfl rfl, jm_pre hK hE hS hPc hDc hFc _⟩ rfl rfl hl.1 rfl (lv_room (Nat.le_of_ble_eq_true rfl)) dX6_write_35 ⟨Nat.zero_le _, Nat.zero_le _⟩) hS hP hD [0, 1, 2] [3, 4, 5] rfl rfl (by decide) (by decide) hFc (fun u_5 H_5 locs hw hP hD hS => ?_)
  obtain ⟨wo_5, wb_5, sc_5, sb_5⟩ := u_5
  have h := pr4_out hw
  have hP : va_P D vwCl [(a_pw, .inr (6, [.ref a_st, .int wo_5, .int wb_5])), (a_st, .inr (7, [.ref a_stb, .int sc_5])), (a_stb, .inl (cB, 8000, .inl sb_5)), (a_pl, .inr (4, [.ref a_plm, .ref a_pll, .int la, .int ld, .int lq, .int lz])), (a_plm, .inl (cI, 64, .inl lm)), (a_pll, .inl (cI, 1024, .inl lv))] H_5 := hP.sub [3, 4, 5, 0, 1, 2] rfl
  have hD : va_D A [(a_pw, .inr (6, [.ref a_st, .int wo_5, .int wb_5])), (a_st, .inr (7, [.ref a_stb, .int sc_5])), (a_stb, .inl (cB, 8000, .inl sb_5)), (a_pl, .inr (4, [.ref a_plm, .ref a_pll, .int la, .int ld, .int lq, .int lz])), (a_plm, .inl (cI, 64, .inl lm)), (a_pll, .inl (cI, 1024, .inl lv))] := hD.sub [3, 4, 5, 0, 1, 2] (by decide) rfl
  refine lv_aload_n hx hb dX6_write_38 rfl (lv_at hl 0 rfl) ?_
  refine lv_aload_n hx hb dX6_write_39 rfl (lv_at hl 1 rfl) ?_
  refine va_getN (D := D) (ci := 4) (v := .int lq) (C := RX4) (T := TX4) (N := 6) hx hb hts iX4 hown hK hP 3 rfl rfl 4 (by decide) (va_Nw.use rfl (hE.1 ("IntraMill$PlanWriter", 39, "IntraMill$Plan", "qp", "I") (List.mem_of_getElem? (i := 25) rfl))) (fun _ h9 => h9) rfl dX6_write_40 ?_
  have hPc := hP.sub (ws' := [(a_pw, .inr (6, [.ref a_st, .int wo_5, .int wb_5])), (a_st, .inr (7, [.ref a_stb, .int sc_5])), (a_stb, .inl (cB, 8000, .inl sb_5))]) [0, 1, 2] rfl
  have hDc := hD.sub (ws' := [(a_pw, .inr (6, [.ref a_st, .int wo_5, .int wb_5])), (a_st, .inr (7, [.ref a_stb, .int sc_5])), (a_stb, .inl (cB, 8000, .inl sb_5))]) [0, 1, 2] (by decide) rfl
  have hFc := va_free (wc := [(a_pw, .inr (6, [.ref a_st, .int wo_5, .int wb_5])), (a_st, .inr (7, [.ref a_stb, .int sc_5])), (a_stb, .inl (cB, 8000, .inl sb_5))]) hD hS hA [0, 1, 2] rfl
  refine jm_callv (wr := [(a_pl, .inr (4, [.ref a_plm, .ref a_pll, .int la, .int ld, .int lq, .int lz])), (a_plm, .inl (cI, 64, .inl lm)), (a_pll, .inl (cI, 1024, .inl lv))]) (va_runV (As := [.int lq]) (rest := []) ⟨hx, hb, hml, hown, hts⟩ (c_X6_writeNumber l D cI cB tt a_pw a_st a_stb H_5.size wo_5 wb_5 sc_5 sb_5 lq h) (cwV 1 hts (jm_gV mw_638 mw_640 mw_21 mw_61 mw_641) rfl rfl rfl (by decide +kernel) ⟨Nat.le_of_ble_eq_true rfl, Nat.le_of_ble_eq_true rfl⟩) ⟨jm_blind, va_recv hK hPc (ci := 6) (q0 := 0) rfl rfl, jm_pre hK hE hS hPc hDc hFc _⟩ rfl rfl hl.1 rfl (lv_room (Nat.le_of_ble_eq_true rfl)) dX6_write_43 ⟨Nat.zero_le _, Nat.zero_le _⟩) hS hP hD [0, 1, 2] [3, 4, 5] rfl rfl (by decide) (by decide) hFc (fun u_6 H_6 locs hw hP hD hS => ?_)
  obtain ⟨wo_6, wb_6, sc_6, sb_6⟩ := u_6
  have h := pr4_out hw
  have hP : va_P D vwCl [(a_pw, .inr (6, [.ref a_st, .int wo_6, .int wb_6])), (a_st, .inr (7, [.ref a_stb, .int sc_6])), (a_stb, .inl (cB, 8000, .inl sb_6)), (a_pl, .inr (4, [.ref a_plm, .ref a_pll, .int la, .int ld, .int lq, .int lz])), (a_plm, .inl (cI, 64, .inl lm)), (a_pll, .inl (cI, 1024, .inl lv))] H_6 := hP.sub [3, 4, 5, 0, 1, 2] rfl
  have hD : va_D A [(a_pw, .inr (6, [.ref a_st, .int wo_6, .int wb_6])), (a_st, .inr (7, [.ref a_stb, .int sc_6])), (a_stb, .inl (cB, 8000, .inl sb_6)), (a_pl, .inr (4, [.ref a_plm, .ref a_pll, .int la, .int ld, .int lq, .int lz])), (a_plm, .inl (cI, 64, .inl lm)), (a_pll, .inl (cI, 1024, .inl lv))] := hD.sub [3, 4, 5, 0, 1, 2] (by decide) rfl
  refine lv_aload_n hx hb dX6_write_46 rfl (lv_at hl 0 rfl) ?_
  refine lv_aload_n hx hb dX6_write_47 rfl (lv_at hl 1 rfl) ?_
  refine va_getN (D := D) (ci := 4) (v := .int lz) (C := RX4) (T := TX4) (N := 6) hx hb hts iX4 hown hK hP 3 rfl rfl 5 (by decide) (va_Nw.use rfl (hE.1 ("IntraMill$PlanWriter", 42, "IntraMill$Plan", "smooth", "Z") (List.mem_of_getElem? (i := 26) rfl))) (fun _ h9 => h9) rfl dX6_write_48 ?_
  obtain ⟨J_7, hj_7, h⟩ := jn1_out h
  have hJ_7 : ∀ (t0_7 : Int32), ∀ (H : Heap) (locs : List Loc) (ls : Array Slot), J_7 t0_7 → va_P D vwCl [(a_pw, .inr (6, [.ref a_st, .int wo_6, .int wb_6])), (a_st, .inr (7, [.ref a_stb, .int sc_6])), (a_stb, .inl (cB, 8000, .inl sb_6)), (a_pl, .inr (4, [.ref a_plm, .ref a_pll, .int la, .int ld, .int lq, .int lz])), (a_plm, .inl (cI, 64, .inl lm)), (a_pll, .inl (cI, 1024, .inl lv))] H → va_D A [(a_pw, .inr (6, [.ref a_st, .int wo_6, .int wb_6])), (a_st, .inr (7, [.ref a_stb, .int sc_6])), (a_stb, .inl (cB, 8000, .inl sb_6)), (a_pl, .inr (4, [.ref a_plm, .ref a_pll, .int la, .int ld, .int lq, .int lz])), (a_plm, .inl (cI, 64, .inl lm)), (a_pll, .inl (cI, 1024, .inl lv))] → va_S A s.heap H locs → lv_has ls 3 [(0, .ref a_pw), (1, .ref a_pl)] → W p l e rmX6_write s m args below meth c H locs 0 0 Q (F0 m 59 ls [.int t0_7, .ref a_pw]) := by
    intro t0_7 H locs ls h hP hD hS hl
    have h := hj_7 t0_7 h
    refine lv_iconst (v := 1) hx hb dX6_write_59 (by decide) ?_
    have hPc := hP.sub (ws' := [(a_pw, .inr (6, [.ref a_st, .int wo_6, .int wb_6])), (a_st, .inr (7, [.ref a_stb, .int sc_6])), (a_stb, .inl (cB, 8000, .inl sb_6))]) [0, 1, 2] rfl
    have hDc := hD.sub (ws' := [(a_pw, .inr (6, [.ref a_st, .int wo_6, .int wb_6])), (a_st, .inr (7, [.ref a_stb, .int sc_6])), (a_stb, .inl (cB, 8000, .inl sb_6))]) [0, 1, 2] (by decide) rfl
    have hFc := va_free (wc := [(a_pw, .inr (6, [.ref a_st, .int wo_6, .int wb_6])), (a_st, .inr (7, [.ref a_stb, .int sc_6])), (a_stb, .inl (cB, 8000, .inl sb_6))]) hD hS hA [0, 1, 2] rfl
    refine jm_callv (wr := [(a_pl, .inr (4, [.ref a_plm, .ref a_pll, .int la, .int ld, .int lq, .int lz])), (a_plm, .inl (cI, 64, .inl lm)), (a_pll, .inl (cI, 1024, .inl lv))]) (va_runV (As := [.int t0_7, .int 1]) (rest := []) ⟨hx, hb, hml, hown, hts⟩ (c_X6_writeBits l D cI cB tt a_pw a_st a_stb H.size wo_6 wb_6 sc_6 sb_6 t0_7 1 h) (cwV 2 hts (jm_gV mw_642 mw_644 mw_22 mw_61 mw_645) rfl rfl rfl (by decide +kernel) ⟨Nat.le_of_ble_eq_true rfl, Nat.le_of_ble_eq_true rfl⟩) ⟨jm_blind, va_recv hK hPc (ci := 6) (q0 := 0) rfl rfl, jm_pre hK hE hS hPc hDc hFc _⟩ rfl rfl hl.1 rfl (lv_room (Nat.le_of_ble_eq_true rfl)) dX6_write_60 ⟨Nat.zero_le _, Nat.zero_le _⟩) hS hP hD [0, 1, 2] [3, 4, 5] rfl rfl (by decide) (by decide) hFc (fun u_8 H_8 locs hw hP hD hS => ?_)
    obtain ⟨wo_8, wb_8, sc_8, sb_8⟩ := u_8
    have h := pr4_out hw
    have hP : va_P D vwCl [(a_pw, .inr (6, [.ref a_st, .int wo_8, .int wb_8])), (a_st, .inr (7, [.ref a_stb, .int sc_8])), (a_stb, .inl (cB, 8000, .inl sb_8)), (a_pl, .inr (4, [.ref a_plm, .ref a_pll, .int la, .int ld, .int lq, .int lz])), (a_plm, .inl (cI, 64, .inl lm)), (a_pll, .inl (cI, 1024, .inl lv))] H_8 := hP.sub [3, 4, 5, 0, 1, 2] rfl
    have hD : va_D A [(a_pw, .inr (6, [.ref a_st, .int wo_8, .int wb_8])), (a_st, .inr (7, [.ref a_stb, .int sc_8])), (a_stb, .inl (cB, 8000, .inl sb_8)), (a_pl, .inr (4, [.ref a_plm, .ref a_pll, .int la, .int ld, .int lq, .int lz])), (a_plm, .inl (cI, 64, .inl lm)), (a_pll, .inl (cI, 1024, .inl lv))] := hD.sub [3, 4, 5, 0, 1, 2] (by decide) rfl
    refine lv_iconst (v := 0) hx hb dX6_write_63 (by decide) ?_
    refine lv_istore_n (lv' := [(2, .int 0), (0, .ref a_pw), (1, .ref a_pl)]) hx hb dX6_write_64 rfl hl (by decide) rfl (fun ls hl => ?_)
    obtain ⟨n_16, h⟩ := h
    have hL_16 : ∀ (_ : Unit) (X : Int32 → Int32 → Int32 → Int32 → (Nat → Int32) → Prop), (∀ (v2 : Int32) (wo : Int32) (wb : Int32) (sc : Int32) (sb : (Nat → Int32)), ∀ (H : Heap) (locs : List Loc) (ls : Array Slot), X v2 wo wb sc sb → va_P D vwCl [(a_pw, .inr (6, [.ref a_st, .int wo, .int wb])), (a_st, .inr (7, [.ref a_stb, .int sc])), (a_stb, .inl (cB, 8000, .inl sb)), (a_pl, .inr (4, [.ref a_plm, .ref a_pll, .int la, .int ld, .int lq, .int lz])), (a_plm, .inl (cI, 64, .inl lm)), (a_pll, .inl (cI, 1024, .inl lv))] H → va_D A [(a_pw, .inr (6, [.ref a_st, .int wo, .int wb])), (a_st, .inr (7, [.ref a_stb, .int sc])), (a_stb, .inl (cB, 8000, .inl sb)), (a_pl, .inr (4, [.ref a_plm, .ref a_pll, .int la, .int ld, .int lq, .int lz])), (a_plm, .inl (cI, 64, .inl lm)), (a_pll, .inl (cI, 1024, .inl lv))] → va_S A s.heap H locs → lv_has ls 3 [(0, .ref a_pw), (1, .ref a_pl), (2, .int v2)] → W p l e rmX6_write s m args below meth c H locs 0 0 Q (F0 m 106 ls [])) → ∀ (n : Nat) (v2 : Int32) (wo : Int32) (wb : Int32) (sc : Int32) (sb : (Nat → Int32)), ∀ (H : Heap) (locs : List Loc) (ls : Array Slot), wl_X6_write_65 la ld lm lv K X n v2 wo wb sc sb → va_P D vwCl [(a_pw, .inr (6, [.ref a_st, .int wo, .int wb])), (a_st, .inr (7, [.ref a_stb, .int sc])), (a_stb, .inl (cB, 8000, .inl sb)), (a_pl, .inr (4, [.ref a_plm, .ref a_pll, .int la, .int ld, .int lq, .int lz])), (a_plm, .inl (cI, 64, .inl lm)), (a_pll, .inl (cI, 1024, .inl lv))] H → va_D A [(a_pw, .inr (6, [.ref a_st, .int wo, .int wb])), (a_st, .inr (7, [.ref a_stb, .int sc])), (a_stb, .inl (cB, 8000, .inl sb)), (a_pl, .inr (4, [.ref a_plm, .ref a_pll, .int la, .int ld, .int lq, .int lz])), (a_plm, .inl (cI, 64, .inl lm)), (a_pll, .inl (cI, 1024, .inl lv))] → va_S A s.heap H locs → lv_has ls 3 [(0, .ref a_pw), (1, .ref a_pl), (2, .int v2)] → W p l e rmX6_write s m args below meth c H locs 0 0 Q (F0 m 65 ls []) := by
      intro _ X hX n
      induction n with
      | zero => intro v2 wo wb sc sb H locs ls h; rw [wl_X6_write_65] at h; exact h.elim
      | succ n ih =>
        intro v2 wo wb sc sb H locs ls h hP hD hS hl
        rw [wl_X6_write_65] at h
        refine lv_iload_n hx hb dX6_write_65 rfl (lv_at hl 2 rfl) ?_
        refine lv_aload_n hx hb dX6_write_66 rfl (lv_at hl 1 rfl) ?_
        have hPc := hP.sub (ws' := [(a_pl, .inr (4, [.ref a_plm, .ref a_pll, .int la, .int ld, .int lq, .int lz])), (a_plm, .inl (cI, 64, .inl lm)), (a_pll, .inl (cI, 1024, .inl lv))]) [3, 4, 5] rfl
        have hDc := hD.sub (ws' := [(a_pl, .inr (4, [.ref a_plm, .ref a_pll, .int la, .int ld, .int lq, .int lz])), (a_plm, .inl (cI, 64, .inl lm)), (a_pll, .inl (cI, 1024, .inl lv))]) [3, 4, 5] (by decide) rfl
        have hFc := va_free (wc := [(a_pl, .inr (4, [.ref a_plm, .ref a_pll, .int la, .int ld, .int lq, .int lz])), (a_plm, .inl (cI, 64, .inl lm)), (a_pll, .inl (cI, 1024, .inl lv))]) hD hS hA [3, 4, 5] rfl
        refine jm_calli (wr := [(a_pw, .inr (6, [.ref a_st, .int wo, .int wb])), (a_st, .inr (7, [.ref a_stb, .int sc])), (a_stb, .inl (cB, 8000, .inl sb))]) (va_runV (As := []) (rest := [.int v2]) ⟨hx, hb, hml, hown, hts⟩ (c_X4_blocks l D cI cB tt a_pl a_plm a_pll H.size la ld lq lz lm lv h) (cwV 0 hts (jm_gV mw_654 mw_344 mw_345 mw_64 mw_346) rfl rfl rfl (by decide +kernel) ⟨Nat.le_of_ble_eq_true rfl, Nat.le_of_ble_eq_true rfl⟩) ⟨jm_blind, va_recv hK hPc (ci := 4) (q0 := 0) rfl rfl, jm_pre hK hE hS hPc hDc hFc _⟩ rfl rfl hl.1 rfl (lv_room (Nat.le_of_ble_eq_true rfl)) dX6_write_67 ⟨Nat.zero_le _, Nat.zero_le _⟩) hS hP hD [3, 4, 5] [0, 1, 2] rfl rfl (by decide) (by decide) hFc (fun r_9 u_9 H_9 locs hw hP hD hS => ?_)
        have h := hw
        have hP : va_P D vwCl [(a_pw, .inr (6, [.ref a_st, .int wo, .int wb])), (a_st, .inr (7, [.ref a_stb, .int sc])), (a_stb, .inl (cB, 8000, .inl sb)), (a_pl, .inr (4, [.ref a_plm, .ref a_pll, .int la, .int ld, .int lq, .int lz])), (a_plm, .inl (cI, 64, .inl lm)), (a_pll, .inl (cI, 1024, .inl lv))] H_9 := hP.sub [0, 1, 2, 3, 4, 5] rfl
        have hD : va_D A [(a_pw, .inr (6, [.ref a_st, .int wo, .int wb])), (a_st, .inr (7, [.ref a_stb, .int sc])), (a_stb, .inl (cB, 8000, .inl sb)), (a_pl, .inr (4, [.ref a_plm, .ref a_pll, .int la, .int ld, .int lq, .int lz])), (a_plm, .inl (cI, 64, .inl lm)), (a_pll, .inl (cI, 1024, .inl lv))] := hD.sub [0, 1, 2, 3, 4, 5] (by decide) rfl
        refine lv_icmp_ge (tgt := 106) hx hb dX6_write_70 (by decide) (fun c_10 => ?_) (fun c_10 => ?_)
        · have h := h.1 c_10
          exact hX v2 wo wb sc sb H_9 _ _ h hP hD hS (lv_sub hl [0, 1, 2] rfl)
        · have h := h.2 c_10
          refine lv_aload_n hx hb dX6_write_73 rfl (lv_at hl 0 rfl) ?_
          refine lv_aload_n hx hb dX6_write_74 rfl (lv_at hl 1 rfl) ?_
          refine va_getN (D := D) (ci := 4) (v := .ref a_plm) (C := RX4) (T := TX4) (N := 6) hx hb hts iX4 hown hK hP 3 rfl rfl 0 (by decide) (va_Nw.use rfl (hE.1 ("IntraMill$PlanWriter", 54, "IntraMill$Plan", "modes", "[I") (List.mem_of_getElem? (i := 27) rfl))) (fun _ h9 => h9) rfl dX6_write_75 ?_
          refine lv_iload_n hx hb dX6_write_78 rfl (lv_at hl 2 rfl) ?_
          obtain ⟨hi_11, h⟩ := h
          refine va_iald hx hb hK hP 4 0 rfl rfl hi_11 dX6_write_79 ?_
          refine lv_aload_n hx hb dX6_write_80 rfl (lv_at hl 1 rfl) ?_
          refine lv_iload_n hx hb dX6_write_81 rfl (lv_at hl 2 rfl) ?_
          have hPc := hP.sub (ws' := [(a_pl, .inr (4, [.ref a_plm, .ref a_pll, .int la, .int ld, .int lq, .int lz])), (a_plm, .inl (cI, 64, .inl lm)), (a_pll, .inl (cI, 1024, .inl lv))]) [3, 4, 5] rfl
          have hDc := hD.sub (ws' := [(a_pl, .inr (4, [.ref a_plm, .ref a_pll, .int la, .int ld, .int lq, .int lz])), (a_plm, .inl (cI, 64, .inl lm)), (a_pll, .inl (cI, 1024, .inl lv))]) [3, 4, 5] (by decide) rfl
          have hFc := va_free (wc := [(a_pl, .inr (4, [.ref a_plm, .ref a_pll, .int la, .int ld, .int lq, .int lz])), (a_plm, .inl (cI, 64, .inl lm)), (a_pll, .inl (cI, 1024, .inl lv))]) hD hS hA [3, 4, 5] rfl
          refine jm_calli (wr := [(a_pw, .inr (6, [.ref a_st, .int wo, .int wb])), (a_st, .inr (7, [.ref a_stb, .int sc])), (a_stb, .inl (cB, 8000, .inl sb))]) (va_runV (As := [.int v2]) (rest := [.int (jat lm v2), .ref a_pw]) ⟨hx, hb, hml, hown, hts⟩ (c_X4_likelyMode l D cI cB tt a_pl a_plm a_pll H_9.size la ld lq lz lm lv v2 h) (cwV 1 hts (jm_gV mw_655 mw_352 mw_353 mw_64 mw_354) rfl rfl rfl (by decide +kernel) ⟨Nat.le_of_ble_eq_true rfl, Nat.le_of_ble_eq_true rfl⟩) ⟨jm_blind, va_recv hK hPc (ci := 4) (q0 := 0) rfl rfl, jm_pre hK hE hS hPc hDc hFc _⟩ rfl rfl hl.1 rfl (lv_room (Nat.le_of_ble_eq_true rfl)) dX6_write_82 ⟨Nat.zero_le _, Nat.zero_le _⟩) hS hP hD [3, 4, 5] [0, 1, 2] rfl rfl (by decide) (by decide) hFc (fun r_12 u_12 H_12 locs hw hP hD hS => ?_)
          have h := hw
          have hP : va_P D vwCl [(a_pw, .inr (6, [.ref a_st, .int wo, .int wb])), (a_st, .inr (7, [.ref a_stb, .int sc])), (a_stb, .inl (cB, 8000, .inl sb)), (a_pl, .inr (4, [.ref a_plm, .ref a_pll, .int la, .int ld, .int lq, .int lz])), (a_plm, .inl (cI, 64, .inl lm)), (a_pll, .inl (cI, 1024, .inl lv))] H_12 := hP.sub [0, 1, 2, 3, 4, 5] rfl
          have hD : va_D A [(a_pw, .inr (6, [.ref a_st, .int wo, .int wb])), (a_st, .inr (7, [.ref a_stb, .int sc])), (a_stb, .inl (cB, 8000, .inl sb)), (a_pl, .inr (4, [.ref a_plm, .ref a_pll, .int la, .int ld, .int lq, .int lz])), (a_plm, .inl (cI, 64, .inl lm)), (a_pll, .inl (cI, 1024, .inl lv))] := hD.sub [0, 1, 2, 3, 4, 5] (by decide) rfl
          have hPc := hP.sub (ws' := [(a_pw, .inr (6, [.ref a_st, .int wo, .int wb])), (a_st, .inr (7, [.ref a_stb, .int sc])), (a_stb, .inl (cB, 8000, .inl sb))]) [0, 1, 2] rfl
          have hDc := hD.sub (ws' := [(a_pw, .inr (6, [.ref a_st, .int wo, .int wb])), (a_st, .inr (7, [.ref a_stb, .int sc])), (a_stb, .inl (cB, 8000, .inl sb))]) [0, 1, 2] (by decide) rfl
          have hFc := va_free (wc := [(a_pw, .inr (6, [.ref a_st, .int wo, .int wb])), (a_st, .inr (7, [.ref a_stb, .int sc])), (a_stb, .inl (cB, 8000, .inl sb))]) hD hS hA [0, 1, 2] rfl
          refine jm_callv (wr := [(a_pl, .inr (4, [.ref a_plm, .ref a_pll, .int la, .int ld, .int lq, .int lz])), (a_plm, .inl (cI, 64, .inl lm)), (a_pll, .inl (cI, 1024, .inl lv))]) (va_runV (As := [.int (jat lm v2), .int r_12]) (rest := []) ⟨hx, hb, hml, hown, hts⟩ (c_X6_writeMode l D cI cB tt a_pw a_st a_stb H_12.size wo wb sc sb (jat lm v2) r_12 h) (cwV 2 hts (jm_gV mw_656 mw_658 mw_23 mw_61 mw_659) rfl rfl rfl (by decide +kernel) ⟨Nat.le_of_ble_eq_true rfl, Nat.le_of_ble_eq_true rfl⟩) ⟨jm_blind, va_recv hK hPc (ci := 6) (q0 := 0) rfl rfl, jm_pre hK hE hS hPc hDc hFc _⟩ rfl rfl hl.1 rfl (lv_room (Nat.le_of_ble_eq_true rfl)) dX6_write_85 ⟨Nat.zero_le _, Nat.zero_le _⟩) hS hP hD [0, 1, 2] [3, 4, 5] rfl rfl (by decide) (by decide) hFc (fun u_13 H_13 locs hw hP hD hS => ?_)
          obtain ⟨wo_13, wb_13, sc_13, sb_13⟩ := u_13
          have h := pr4_out hw
          have hP : va_P D vwCl [(a_pw, .inr (6, [.ref a_st, .int wo_13, .int wb_13])), (a_st, .inr (7, [.ref a_stb, .int sc_13])), (a_stb, .inl (cB, 8000, .inl sb_13)), (a_pl, .inr (4, [.ref a_plm, .ref a_pll, .int la, .int ld, .int lq, .int lz])), (a_plm, .inl (cI, 64, .inl lm)), (a_pll, .inl (cI, 1024, .inl lv))] H_13 := hP.sub [3, 4, 5, 0, 1, 2] rfl
          have hD : va_D A [(a_pw, .inr (6, [.ref a_st, .int wo_13, .int wb_13])), (a_st, .inr (7, [.ref a_stb, .int sc_13])), (a_stb, .inl (cB, 8000, .inl sb_13)), (a_pl, .inr (4, [.ref a_plm, .ref a_pll, .int la, .int ld, .int lq, .int lz])), (a_plm, .inl (cI, 64, .inl lm)), (a_pll, .inl (cI, 1024, .inl lv))] := hD.sub [3, 4, 5, 0, 1, 2] (by decide) rfl
          refine lv_aload_n hx hb dX6_write_88 rfl (lv_at hl 0 rfl) ?_
          refine lv_aload_n hx hb dX6_write_89 rfl (lv_at hl 1 rfl) ?_
          refine va_getN (D := D) (ci := 4) (v := .ref a_pll) (C := RX4) (T := TX4) (N := 6) hx hb hts iX4 hown hK hP 3 rfl rfl 1 (by decide) (va_Nw.use rfl (hE.1 ("IntraMill$PlanWriter", 65, "IntraMill$Plan", "levels", "[I") (List.mem_of_getElem? (i := 28) rfl))) (fun _ h9 => h9) rfl dX6_write_90 ?_
          refine lv_bipush (v := 16) hx hb dX6_write_93 (by decide) ?_
          refine lv_iload_n hx hb dX6_write_95 rfl (lv_at hl 2 rfl) ?_
          refine lv_imul hx hb dX6_write_96 ?_
          have hPc := hP.sub (ws' := [(a_pw, .inr (6, [.ref a_st, .int wo_13, .int wb_13])), (a_st, .inr (7, [.ref a_stb, .int sc_13])), (a_stb, .inl (cB, 8000, .inl sb_13)), (a_pll, .inl (cI, 1024, .inl lv))]) [0, 1, 2, 5] rfl
          have hDc := hD.sub (ws' := [(a_pw, .inr (6, [.ref a_st, .int wo_13, .int wb_13])), (a_st, .inr (7, [.ref a_stb, .int sc_13])), (a_stb, .inl (cB, 8000, .inl sb_13)), (a_pll, .inl (cI, 1024, .inl lv))]) [0, 1, 2, 5] (by decide) rfl
          have hFc := va_free (wc := [(a_pw, .inr (6, [.ref a_st, .int wo_13, .int wb_13])), (a_st, .inr (7, [.ref a_stb, .int sc_13])), (a_stb, .inl (cB, 8000, .inl sb_13)), (a_pll, .inl (cI, 1024, .inl lv))]) hD hS hA [0, 1, 2, 5] rfl
          refine jm_callv (wr := [(a_pl, .inr (4, [.ref a_plm, .ref a_pll, .int la, .int ld, .int lq, .int lz])), (a_plm, .inl (cI, 64, .inl lm))]) (va_runV (As := [.ref a_pll, .int (16 * v2)]) (rest := []) ⟨hx, hb, hml, hown, hts⟩ (c_X6_writeLevels l D cI cB tt a_pw a_st a_stb a_pll H_13.size wo_13 wb_13 sc_13 sb_13 lv (16 * v2) h) (cwV 2 hts (jm_gV mw_660 mw_662 mw_24 mw_61 mw_663) rfl rfl rfl (by decide +kernel) ⟨Nat.le_of_ble_eq_true rfl, Nat.le_of_ble_eq_true rfl⟩) ⟨jm_blind, va_recv hK hPc (ci := 6) (q0 := 0) rfl rfl, jm_pre hK hE hS hPc hDc hFc _⟩ rfl rfl hl.1 rfl (lv_room (Nat.le_of_ble_eq_true rfl)) dX6_write_97 ⟨Nat.zero_le _, Nat.zero_le _⟩) hS hP hD [0, 1, 2, 5] [3, 4] rfl rfl (by decide) (by decide) hFc (fun u_14 H_14 locs hw hP hD hS => ?_)
          obtain ⟨wo_14, wb_14, sc_14, sb_14⟩ := u_14
          have h := pr4_out hw
          have hP : va_P D vwCl [(a_pw, .inr (6, [.ref a_st, .int wo_14, .int wb_14])), (a_st, .inr (7, [.ref a_stb, .int sc_14])), (a_stb, .inl (cB, 8000, .inl sb_14)), (a_pl, .inr (4, [.ref a_plm, .ref a_pll, .int la, .int ld, .int lq, .int lz])), (a_plm, .inl (cI, 64, .inl lm)), (a_pll, .inl (cI, 1024, .inl lv))] H_14 := hP.sub [2, 3, 4, 0, 1, 5] rfl
          have hD : va_D A [(a_pw, .inr (6, [.ref a_st, .int wo_14, .int wb_14])), (a_st, .inr (7, [.ref a_stb, .int sc_14])), (a_stb, .inl (cB, 8000, .inl sb_14)), (a_pl, .inr (4, [.ref a_plm, .ref a_pll, .int la, .int ld, .int lq, .int lz])), (a_plm, .inl (cI, 64, .inl lm)), (a_pll, .inl (cI, 1024, .inl lv))] := hD.sub [2, 3, 4, 0, 1, 5] (by decide) rfl
          obtain ⟨x2_15, ex2_15⟩ : ∃ y : Int32, y = v2 + 1 := ⟨_, rfl⟩
          have h := h x2_15 ex2_15
          refine lv_iinc (v := x2_15) (lv' := [(2, .int x2_15), (0, .ref a_pw), (1, .ref a_pl)]) hx hb dX6_write_100 hl (k := 2) rfl (by rw [ex2_15]; rfl) (by decide) rfl (fun ls hl => ?_)
          refine lv_goto (tgt := 65) hx hb dX6_write_103 (by decide) ?_
          exact ih x2_15 wo_14 wb_14 sc_14 sb_14 H_14 _ _ h hP hD hS (lv_sub hl [1, 2, 0] rfl)
    refine hL_16 () _ ?_ n_16 0 wo_8 wb_8 sc_8 sb_8 H_8 _ _ h hP hD hS (lv_sub hl [1, 2, 0] rfl)
    intro v2_16 wo_16 wb_16 sc_16 sb_16 H locs ls h hP hD hS hl
    refine lv_aload_n hx hb dX6_write_106 rfl (lv_at hl 0 rfl) ?_
    refine va_get (D := D) (ci := 6) (v := .int wb_16) (C := RX6) (T := TX6) (N := 3) hx hb hts iX6 hown hK hP 0 rfl rfl 2 (by decide) lk24 (fun _ h9 => h9) rfl dX6_write_107 ?_
    refine lv_if_le (tgt := 125) hx hb dX6_write_110 (by decide) (fun c_17 => ?_) (fun c_17 => ?_)
    · have h := h.1 c_17
      exact hret (wo_16, wb_16, sc_16, sb_16) _ _ _ _ dX6_write_125 h hP hD hS
    · have h := h.2 c_17
      refine lv_aload_n hx hb dX6_write_113 rfl (lv_at hl 0 rfl) ?_
      refine lv_iconst (v := 0) hx hb dX6_write_114 (by decide) ?_
      refine lv_bipush (v := 8) hx hb dX6_write_115 (by decide) ?_
      refine lv_aload_n hx hb dX6_write_117 rfl (lv_at hl 0 rfl) ?_
      refine va_get (D := D) (ci := 6) (v := .int wb_16) (C := RX6) (T := TX6) (N := 3) hx hb hts iX6 hown hK hP 0 rfl rfl 2 (by decide) lk24 (fun _ h9 => h9) rfl dX6_write_118 ?_
      refine lv_isub hx hb dX6_write_121 ?_
      have hPc := hP.sub (ws' := [(a_pw, .inr (6, [.ref a_st, .int wo_16, .int wb_16])), (a_st, .inr (7, [.ref a_stb, .int sc_16])), (a_stb, .inl (cB, 8000, .inl sb_16))]) [0, 1, 2] rfl
      have hDc := hD.sub (ws' := [(a_pw, .inr (6, [.ref a_st, .int wo_16, .int wb_16])), (a_st, .inr (7, [.ref a_stb, .int sc_16])), (a_stb, .inl (cB, 8000, .inl sb_16))]) [0, 1, 2] (by decide) rfl
      have hFc := va_free (wc := [(a_pw, .inr (6, [.ref a_st, .int wo_16, .int wb_16])), (a_st, .inr (7, [.ref a_stb, .int sc_16])), (a_stb, .inl (cB, 8000, .inl sb_16))]) hD hS hA [0, 1, 2] rfl
      refine jm_callv (wr := [(a_pl, .inr (4, [.ref a_plm, .ref a_pll, .int la, .int ld, .int lq, .int lz])), (a_plm, .inl (cI, 64, .inl lm)), (a_pll, .inl (cI, 1024, .inl lv))]) (va_runV (As := [.int 0, .int (8 - wb_16)]) (rest := []) ⟨hx, hb, hml, hown, hts⟩ (c_X6_writeBits l D cI cB tt a_pw a_st a_stb H.size wo_16 wb_16 sc_16 sb_16 0 (8 - wb_16) h) (cwV 2 hts (jm_gV mw_642 mw_644 mw_22 mw_61 mw_645) rfl rfl rfl (by decide +kernel) ⟨Nat.le_of_ble_eq_true rfl, Nat.le_of_ble_eq_true rfl⟩) ⟨jm_blind, va_recv hK hPc (ci := 6) (q0 := 0) rfl rfl, jm_pre hK hE hS hPc hDc hFc _⟩ rfl rfl hl.1 rfl (lv_room (Nat.le_of_ble_eq_true rfl)) dX6_write_122 ⟨Nat.zero_le _, Nat.zero_le _⟩) hS hP hD [0, 1, 2] [3, 4, 5] rfl rfl (by decide) (by decide) hFc (fun u_18 H_18 locs hw hP hD hS => ?_)
      obtain ⟨wo_18, wb_18, sc_18, sb_18⟩ := u_18
      have h := pr4_out hw
      have hP : va_P D vwCl [(a_pw, .inr (6, [.ref a_st, .int wo_18, .int wb_18])), (a_st, .inr (7, [.ref a_stb, .int sc_18])), (a_stb, .inl (cB, 8000, .inl sb_18)), (a_pl, .inr (4, [.ref a_plm, .ref a_pll, .int la, .int ld, .int lq, .int lz])), (a_plm, .inl (cI, 64, .inl lm)), (a_pll, .inl (cI, 1024, .inl lv))] H_18 := hP.sub [3, 4, 5, 0, 1, 2] rfl
      have hD : va_D A [(a_pw, .inr (6, [.ref a_st, .int wo_18, .int wb_18])), (a_st, .inr (7, [.ref a_stb, .int sc_18])), (a_stb, .inl (cB, 8000, .inl sb_18)), (a_pl, .inr (4, [.ref a_plm, .ref a_pll, .int la, .int ld, .int lq, .int lz])), (a_plm, .inl (cI, 64, .inl lm)), (a_pll, .inl (cI, 1024, .inl lv))] := hD.sub [3, 4, 5, 0, 1, 2] (by decide) rfl
      exact hret (wo_18, wb_18, sc_18, sb_18) _ _ _ _ dX6_write_125 h hP hD hS
  refine lv_if_eq (tgt := 58) hx hb dX6_write_51 (by decide) (fun c_19 => ?_) (fun c_19 => ?_)
  · have h := h.1 c_19
    refine lv_iconst (v := 0) hx hb dX6_write_58 (by decide) ?_
    exact hJ_7 0 H_6 _ _ h hP hD hS (lv_sub hl [0, 1] rfl)
  · have h := h.2 c_19
    refine lv_iconst (v := 1) hx hb dX6_write_54 (by decide) ?_
    refine lv_goto (tgt := 59) hx hb dX6_write_55 (by decide) ?_
    exact hJ_7 1 H_6 _ _ h hP hD hS (lv_sub hl [0, 1] rfl)
