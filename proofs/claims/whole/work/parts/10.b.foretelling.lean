abbrev wd_fo_fol_pi_pix (cI cB : ClassId) (a_fo a_fol a_pi a_pix : Nat) (fa : Int32) (ff : Int32) (fm : Int32) (fl : (Nat → Int32)) (pa : Int32) (pd : Int32) (px : (Nat → Int32)) : va_W := [(a_fo, .inr (2, [.ref a_pi, .ref a_fol, .int fa, .int ff, .int fm])), (a_fol, .inl (cI, 17, .inl fl)), (a_pi, .inr (3, [.ref a_pix, .int pa, .int pd])), (a_pix, .inl (cI, 1024, .inl px))]
def wl_X2_lookAbove_25 (v1 : Int32) (v2 : Int32) (v3 : Int32) (px : (Nat → Int32)) (K : (Nat → Int32) → Prop) (X : Int32 → (Nat → Int32) → Prop) : Nat → Int32 → (Nat → Int32) → Prop
  | 0, _, _ => False
  | n + 1, v4, fl => ((9 ≤ v4 → X v4 fl) ∧ (¬ 9 ≤ v4 → jn1 (fun (t0_3 : Int32) => vp_in (8 + v4) 17 ∧ ∀ x4_6 : Int32, x4_6 = v4 + 1 → wl_X2_lookAbove_25 v1 v2 v3 px K X n x4_6 (jup fl (8 + v4) t0_3)) (fun J_3 => ((v3 ≤ v4 → vp_in (7 + v4) 17 ∧ J_3 (jat fl (7 + v4))) ∧ (¬ v3 ≤ v4 → wp_X3_get px (v1 + v4) v2 (fun (r_9 : Int32) => J_3 r_9))))))
def wp_X2_lookAbove (fl : (Nat → Int32)) (pa : Int32) (px : (Nat → Int32)) (v1 v2 : Int32) (K : (Nat → Int32) → Prop) : Prop := jn1 (fun (t0_1 : Int32) => ∃ k : Nat, wl_X2_lookAbove_25 v1 v2 t0_1 px K (fun (v4_10 : Int32) (fl_10 : (Nat → Int32)) => K fl_10) k 0 fl) (fun J_1 => (((4 * pa) ≤ (v1 + 4) → J_1 4) ∧ (¬ (4 * pa) ≤ (v1 + 4) → J_1 8)))
abbrev jw_X2_lookAbove : List Cond := .code yX2_lookAbove cX2_lookAbove 5 none :: jmAll
abbrev rmX2_lookAbove : Room := { frames := 1, cells := 0, slots := 0, locals := 22 }
set_option maxHeartbeats 4000000 in
set_option maxRecDepth 100000 in
theorem c_X2_lookAbove (l : Launch) (D : va_G) (cI cB : ClassId) (tt : Nat × Nat × Nat) (a_fo a_fol a_pi a_pix : Nat) (sz : Nat) (fa : Int32) (ff : Int32) (fm : Int32) (fl : (Nat → Int32)) (pa : Int32) (pd : Int32) (px : (Nat → Int32)) (v1 v2 : Int32) {K : (Nat → Int32) → Prop} (h : wp_X2_lookAbove fl pa px v1 v2 K) : Met l yX2_lookAbove jw_X2_lookAbove rmX2_lookAbove (va_Pc [.ref a_fo, .int v1, .int v2] (jm_Pre D cI cB tt (wd_fo_fol_pi_pix cI cB a_fo a_fol a_pi a_pix fa ff fm fl pa pd px) sz)) (va_Qv (fun (u : (Nat → Int32)) => K u) (jm_Post D cI cB (wd_fo_fol_pi_pix cI cB a_fo a_fol a_pi a_pix fa ff fm fl pa pd px) sz (fun (u : (Nat → Int32)) => wd_fo_fol_pi_pix cI cB a_fo a_fol a_pi a_pix fa ff fm u pa pd px)) (va_A (wd_fo_fol_pi_pix cI cB a_fo a_fol a_pi a_pix fa ff fm fl pa pd px) sz)) 0 0 (va_A (wd_fo_fol_pi_pix cI cB a_fo a_fol a_pi a_pix fa ff fm fl pa pd px) sz) := by
  refine jm_metV (by decide +kernel) rfl rfl (Nat.le_of_ble_eq_true rfl) ?_
  intro p e s m args below meth c A Q ls C0 hP hD hl hret
  obtain ⟨hx, hb, hml, hr, hown, hts, hlocks, hA, hK, hE⟩ := C0
  have hS : va_S A s.heap s.heap [] := va_S.rf
  have hl : lv_has ls 5 [(0, .ref a_fo), (1, .int v1), (2, .int v2)] := hl
  unfold wp_X2_lookAbove at h
  have hP : va_P D vwCl [(a_fo, .inr (2, [.ref a_pi, .ref a_fol, .int fa, .int ff, .int fm])), (a_fol, .inl (cI, 17, .inl fl)), (a_pi, .inr (3, [.ref a_pix, .int pa, .int pd])), (a_pix, .inl (cI, 1024, .inl px))] s.heap := hP
  have hD : va_D A [(a_fo, .inr (2, [.ref a_pi, .ref a_fol, .int fa, .int ff, .int fm])), (a_fol, .inl (cI, 17, .inl fl)), (a_pi, .inr (3, [.ref a_pix, .int pa, .int pd])), (a_pix, .inl (cI, 1024, .inl px))] := hD
  have iX2 : ∀ w ∈ wsX20, w ∈ jw_X2_lookAbove := fun w h => List.mem_cons_of_mem _ (jm_iX2 w h)
  have iX3 : ∀ w ∈ wsX30, w ∈ jw_X2_lookAbove := fun w h => List.mem_cons_of_mem _ (jm_iX3 w h)
  have lk11 := hts (.fieldLink RX2 11 "IntraMill$Foretelling" "line" "[I") (List.mem_cons_of_mem _ mw_107)
  have lk15 := hts (.fieldLink RX2 15 "IntraMill$Foretelling" "picture" "LIntraMill$Picture;") (List.mem_cons_of_mem _ mw_106)
  refine lv_iload_n hx hb dX2_lookAbove_0 rfl (lv_at hl 1 rfl) ?_
  refine lv_iconst (v := 4) hx hb dX2_lookAbove_1 (by decide) ?_
  refine lv_iadd hx hb dX2_lookAbove_2 ?_
  refine lv_iconst (v := 4) hx hb dX2_lookAbove_3 (by decide) ?_
  refine lv_aload_n hx hb dX2_lookAbove_4 rfl (lv_at hl 0 rfl) ?_
  refine va_get (D := D) (ci := 2) (v := .ref a_pi) (C := RX2) (T := TX2) (N := 5) hx hb hts iX2 hown hK hP 0 rfl rfl 0 (by decide) lk15 (fun _ h9 => h9) rfl dX2_lookAbove_5 ?_
  refine va_getN (D := D) (ci := 3) (v := .int pa) (C := RX3) (T := TX3) (N := 3) hx hb hts iX3 hown hK hP 2 rfl rfl 1 (by decide) (va_Nw.use rfl (hE.1 ("IntraMill$Foretelling", 54, "IntraMill$Picture", "across", "I") (List.mem_of_getElem? (i := 14) rfl))) (fun _ h9 => h9) rfl dX2_lookAbove_8 ?_
  refine lv_imul hx hb dX2_lookAbove_11 ?_
  obtain ⟨J_1, hj_1, h⟩ := jn1_out h
  have hJ_1 : ∀ (t0_1 : Int32), ∀ (H : Heap) (locs : List Loc) (ls : Array Slot), J_1 t0_1 → va_P D vwCl [(a_fo, .inr (2, [.ref a_pi, .ref a_fol, .int fa, .int ff, .int fm])), (a_fol, .inl (cI, 17, .inl fl)), (a_pi, .inr (3, [.ref a_pix, .int pa, .int pd])), (a_pix, .inl (cI, 1024, .inl px))] H → va_D A [(a_fo, .inr (2, [.ref a_pi, .ref a_fol, .int fa, .int ff, .int fm])), (a_fol, .inl (cI, 17, .inl fl)), (a_pi, .inr (3, [.ref a_pix, .int pa, .int pd])), (a_pix, .inl (cI, 1024, .inl px))] → va_S A s.heap H locs → lv_has ls 5 [(0, .ref a_fo), (1, .int v1), (2, .int v2)] → W p l e rmX2_lookAbove s m args below meth c H locs 0 0 Q (F0 m 21 ls [.int t0_1]) := by
    intro t0_1 H locs ls h hP hD hS hl
    have h := hj_1 t0_1 h
    refine lv_istore_n (lv' := [(3, .int t0_1), (0, .ref a_fo), (1, .int v1), (2, .int v2)]) hx hb dX2_lookAbove_21 rfl hl (by decide) rfl (fun ls hl => ?_)
    refine lv_iconst (v := 0) hx hb dX2_lookAbove_22 (by decide) ?_
    refine lv_istore (lv' := [(4, .int 0), (3, .int t0_1), (0, .ref a_fo), (1, .int v1), (2, .int v2)]) hx hb dX2_lookAbove_23 hl (by decide) rfl (fun ls hl => ?_)
    obtain ⟨n_10, h⟩ := h
    have hL_10 : ∀ (v1 : Int32) (v2 : Int32) (v3 : Int32) (X : Int32 → (Nat → Int32) → Prop), (∀ (v4 : Int32) (fl : (Nat → Int32)), ∀ (H : Heap) (locs : List Loc) (ls : Array Slot), X v4 fl → va_P D vwCl [(a_fo, .inr (2, [.ref a_pi, .ref a_fol, .int fa, .int ff, .int fm])), (a_fol, .inl (cI, 17, .inl fl)), (a_pi, .inr (3, [.ref a_pix, .int pa, .int pd])), (a_pix, .inl (cI, 1024, .inl px))] H → va_D A [(a_fo, .inr (2, [.ref a_pi, .ref a_fol, .int fa, .int ff, .int fm])), (a_fol, .inl (cI, 17, .inl fl)), (a_pi, .inr (3, [.ref a_pix, .int pa, .int pd])), (a_pix, .inl (cI, 1024, .inl px))] → va_S A s.heap H locs → lv_has ls 5 [(0, .ref a_fo), (1, .int v1), (2, .int v2), (3, .int v3), (4, .int v4)] → W p l e rmX2_lookAbove s m args below meth c H locs 0 0 Q (F0 m 79 ls [])) → ∀ (n : Nat) (v4 : Int32) (fl : (Nat → Int32)), ∀ (H : Heap) (locs : List Loc) (ls : Array Slot), wl_X2_lookAbove_25 v1 v2 v3 px K X n v4 fl → va_P D vwCl [(a_fo, .inr (2, [.ref a_pi, .ref a_fol, .int fa, .int ff, .int fm])), (a_fol, .inl (cI, 17, .inl fl)), (a_pi, .inr (3, [.ref a_pix, .int pa, .int pd])), (a_pix, .inl (cI, 1024, .inl px))] H → va_D A [(a_fo, .inr (2, [.ref a_pi, .ref a_fol, .int fa, .int ff, .int fm])), (a_fol, .inl (cI, 17, .inl fl)), (a_pi, .inr (3, [.ref a_pix, .int pa, .int pd])), (a_pix, .inl (cI, 1024, .inl px))] → va_S A s.heap H locs → lv_has ls 5 [(0, .ref a_fo), (1, .int v1), (2, .int v2), (3, .int v3), (4, .int v4)] → W p l e rmX2_lookAbove s m args below meth c H locs 0 0 Q (F0 m 25 ls []) := by
      intro v1 v2 v3 X hX n
      induction n with
      | zero => intro v4 fl H locs ls h; rw [wl_X2_lookAbove_25] at h; exact h.elim
      | succ n ih =>
        intro v4 fl H locs ls h hP hD hS hl
        rw [wl_X2_lookAbove_25] at h
        refine lv_iload hx hb dX2_lookAbove_25 (lv_at hl 4 rfl) ?_
        refine lv_bipush (v := 9) hx hb dX2_lookAbove_27 (by decide) ?_
        refine lv_icmp_ge (tgt := 79) hx hb dX2_lookAbove_29 (by decide) (fun c_2 => ?_) (fun c_2 => ?_)
        · have h := h.1 c_2
          exact hX v4 fl H _ _ h hP hD hS (lv_sub hl [0, 1, 2, 3, 4] rfl)
        · have h := h.2 c_2
          refine lv_aload_n hx hb dX2_lookAbove_32 rfl (lv_at hl 0 rfl) ?_
          refine va_get (D := D) (ci := 2) (v := .ref a_fol) (C := RX2) (T := TX2) (N := 5) hx hb hts iX2 hown hK hP 0 rfl rfl 1 (by decide) lk11 (fun _ h9 => h9) rfl dX2_lookAbove_33 ?_
          refine lv_bipush (v := 8) hx hb dX2_lookAbove_36 (by decide) ?_
          refine lv_iload hx hb dX2_lookAbove_38 (lv_at hl 4 rfl) ?_
          refine lv_iadd hx hb dX2_lookAbove_40 ?_
          refine lv_iload hx hb dX2_lookAbove_41 (lv_at hl 4 rfl) ?_
          refine lv_iload_n hx hb dX2_lookAbove_43 rfl (lv_at hl 3 rfl) ?_
          obtain ⟨J_3, hj_3, h⟩ := jn1_out h
          have hJ_3 : ∀ (t0_3 : Int32), ∀ (H : Heap) (locs : List Loc) (ls : Array Slot), J_3 t0_3 → va_P D vwCl [(a_fo, .inr (2, [.ref a_pi, .ref a_fol, .int fa, .int ff, .int fm])), (a_fol, .inl (cI, 17, .inl fl)), (a_pi, .inr (3, [.ref a_pix, .int pa, .int pd])), (a_pix, .inl (cI, 1024, .inl px))] H → va_D A [(a_fo, .inr (2, [.ref a_pi, .ref a_fol, .int fa, .int ff, .int fm])), (a_fol, .inl (cI, 17, .inl fl)), (a_pi, .inr (3, [.ref a_pix, .int pa, .int pd])), (a_pix, .inl (cI, 1024, .inl px))] → va_S A s.heap H locs → lv_has ls 5 [(0, .ref a_fo), (1, .int v1), (2, .int v2), (3, .int v3), (4, .int v4)] → W p l e rmX2_lookAbove s m args below meth c H locs 0 0 Q (F0 m 72 ls [.int t0_3, .int (8 + v4), .ref a_fol]) := by
            intro t0_3 H locs ls h hP hD hS hl
            have h := hj_3 t0_3 h
            obtain ⟨hi_4, h⟩ := h
            refine va_iast hx hb hK hP hD hS 1 0 rfl rfl hi_4 dX2_lookAbove_72 (fun H_5 locs hP hD hS => ?_)
            have hP : va_P D vwCl [(a_fo, .inr (2, [.ref a_pi, .ref a_fol, .int fa, .int ff, .int fm])), (a_fol, .inl (cI, 17, .inl (jup fl (8 + v4) t0_3))), (a_pi, .inr (3, [.ref a_pix, .int pa, .int pd])), (a_pix, .inl (cI, 1024, .inl px))] H_5 := hP
            have hD : va_D A [(a_fo, .inr (2, [.ref a_pi, .ref a_fol, .int fa, .int ff, .int fm])), (a_fol, .inl (cI, 17, .inl (jup fl (8 + v4) t0_3))), (a_pi, .inr (3, [.ref a_pix, .int pa, .int pd])), (a_pix, .inl (cI, 1024, .inl px))] := hD
            obtain ⟨x4_6, ex4_6⟩ : ∃ y : Int32, y = v4 + 1 := ⟨_, rfl⟩
            have h := h x4_6 ex4_6
            refine lv_iinc (v := x4_6) (lv' := [(4, .int x4_6), (0, .ref a_fo), (1, .int v1), (2, .int v2), (3, .int v3)]) hx hb dX2_lookAbove_73 hl (k := 4) rfl (by rw [ex4_6]; rfl) (by decide) rfl (fun ls hl => ?_)
            refine lv_goto (tgt := 25) hx hb dX2_lookAbove_76 (by decide) ?_
            exact ih x4_6 (jup fl (8 + v4) t0_3) H_5 _ _ h hP hD hS (lv_sub hl [1, 2, 3, 4, 0] rfl)
          refine lv_icmp_ge (tgt := 62) hx hb dX2_lookAbove_44 (by decide) (fun c_7 => ?_) (fun c_7 => ?_)
          · have h := h.1 c_7
            refine lv_aload_n hx hb dX2_lookAbove_62 rfl (lv_at hl 0 rfl) ?_
            refine va_get (D := D) (ci := 2) (v := .ref a_fol) (C := RX2) (T := TX2) (N := 5) hx hb hts iX2 hown hK hP 0 rfl rfl 1 (by decide) lk11 (fun _ h9 => h9) rfl dX2_lookAbove_63 ?_
            refine lv_bipush (v := 7) hx hb dX2_lookAbove_66 (by decide) ?_
            refine lv_iload hx hb dX2_lookAbove_68 (lv_at hl 4 rfl) ?_
            refine lv_iadd hx hb dX2_lookAbove_70 ?_
            obtain ⟨hi_8, h⟩ := h
            refine va_iald hx hb hK hP 1 0 rfl rfl hi_8 dX2_lookAbove_71 ?_
            exact hJ_3 (jat fl (7 + v4)) H _ _ h hP hD hS (lv_sub hl [0, 1, 2, 3, 4] rfl)
          · have h := h.2 c_7
            refine lv_aload_n hx hb dX2_lookAbove_47 rfl (lv_at hl 0 rfl) ?_
            refine va_get (D := D) (ci := 2) (v := .ref a_pi) (C := RX2) (T := TX2) (N := 5) hx hb hts iX2 hown hK hP 0 rfl rfl 0 (by decide) lk15 (fun _ h9 => h9) rfl dX2_lookAbove_48 ?_
            refine lv_iload_n hx hb dX2_lookAbove_51 rfl (lv_at hl 1 rfl) ?_
            refine lv_iload hx hb dX2_lookAbove_52 (lv_at hl 4 rfl) ?_
            refine lv_iadd hx hb dX2_lookAbove_54 ?_
            refine lv_iload_n hx hb dX2_lookAbove_55 rfl (lv_at hl 2 rfl) ?_
            have hPc := hP.sub (ws' := [(a_pi, .inr (3, [.ref a_pix, .int pa, .int pd])), (a_pix, .inl (cI, 1024, .inl px))]) [2, 3] rfl
            have hDc := hD.sub (ws' := [(a_pi, .inr (3, [.ref a_pix, .int pa, .int pd])), (a_pix, .inl (cI, 1024, .inl px))]) [2, 3] (by decide) rfl
            have hFc := va_free (wc := [(a_pi, .inr (3, [.ref a_pix, .int pa, .int pd])), (a_pix, .inl (cI, 1024, .inl px))]) hD hS hA [2, 3] rfl
            refine jm_calli (wr := [(a_fo, .inr (2, [.ref a_pi, .ref a_fol, .int fa, .int ff, .int fm])), (a_fol, .inl (cI, 17, .inl fl))]) (va_runV (As := [.int (v1 + v4), .int v2]) (rest := [.int (8 + v4), .ref a_fol]) ⟨hx, hb, hml, hown, hts⟩ (c_X3_get l D cI cB tt a_pi a_pix H.size pa pd px (v1 + v4) v2 h) (cwV 2 hts (jm_gV mw_418 mw_298 mw_299 mw_56 mw_300) rfl rfl rfl (by decide +kernel) ⟨Nat.le_of_ble_eq_true rfl, Nat.le_of_ble_eq_true rfl⟩) ⟨jm_blind, va_recv hK hPc (ci := 3) (q0 := 0) rfl rfl, jm_pre hK hE hS hPc hDc hFc _⟩ rfl rfl hl.1 rfl (lv_room (Nat.le_of_ble_eq_true rfl)) dX2_lookAbove_56 ⟨Nat.zero_le _, Nat.zero_le _⟩) hS hP hD [2, 3] [0, 1] rfl rfl (by decide) (by decide) hFc (fun r_9 u_9 H_9 locs hw hP hD hS => ?_)
            have h := hw
            have hP : va_P D vwCl [(a_fo, .inr (2, [.ref a_pi, .ref a_fol, .int fa, .int ff, .int fm])), (a_fol, .inl (cI, 17, .inl fl)), (a_pi, .inr (3, [.ref a_pix, .int pa, .int pd])), (a_pix, .inl (cI, 1024, .inl px))] H_9 := hP.sub [0, 1, 2, 3] rfl
            have hD : va_D A [(a_fo, .inr (2, [.ref a_pi, .ref a_fol, .int fa, .int ff, .int fm])), (a_fol, .inl (cI, 17, .inl fl)), (a_pi, .inr (3, [.ref a_pix, .int pa, .int pd])), (a_pix, .inl (cI, 1024, .inl px))] := hD.sub [0, 1, 2, 3] (by decide) rfl
            refine lv_goto (tgt := 72) hx hb dX2_lookAbove_59 (by decide) ?_
            exact hJ_3 r_9 H_9 _ _ h hP hD hS (lv_sub hl [0, 1, 2, 3, 4] rfl)
    refine hL_10 v1 v2 t0_1 _ ?_ n_10 0 fl H _ _ h hP hD hS (lv_sub hl [2, 3, 4, 1, 0] rfl)
    intro v4_10 fl_10 H locs ls h hP hD hS hl
    exact hret (fl_10) _ _ _ _ dX2_lookAbove_79 h hP hD hS
  refine lv_icmp_ge (tgt := 20) hx hb dX2_lookAbove_12 (by decide) (fun c_11 => ?_) (fun c_11 => ?_)
  · have h := h.1 c_11
    refine lv_iconst (v := 4) hx hb dX2_lookAbove_20 (by decide) ?_
    exact hJ_1 4 s.heap _ _ h hP hD hS (lv_sub hl [0, 1, 2] rfl)
  · have h := h.2 c_11
    refine lv_bipush (v := 8) hx hb dX2_lookAbove_15 (by decide) ?_
    refine lv_goto (tgt := 21) hx hb dX2_lookAbove_17 (by decide) ?_
    exact hJ_1 8 s.heap _ _ h hP hD hS (lv_sub hl [0, 1, 2] rfl)
def wl_X2_lookLeft_2 (v1 : Int32) (v2 : Int32) (px : (Nat → Int32)) (K : (Nat → Int32) → Prop) (X : Int32 → (Nat → Int32) → Prop) : Nat → Int32 → (Nat → Int32) → Prop
  | 0, _, _ => False
  | n + 1, v3, fl => ((7 ≤ v3 → X v3 fl) ∧ (¬ 7 ≤ v3 → jn1 (fun (t0_2 : Int32) => vp_in (6 - v3) 17 ∧ ∀ x3_5 : Int32, x3_5 = v3 + 1 → wl_X2_lookLeft_2 v1 v2 px K X n x3_5 (jup fl (6 - v3) t0_2)) (fun J_2 => ((4 ≤ v3 → vp_in (7 - v3) 17 ∧ J_2 (jat fl (7 - v3))) ∧ (¬ 4 ≤ v3 → wp_X3_get px v1 (v2 + v3) (fun (r_8 : Int32) => J_2 r_8))))))
def wp_X2_lookLeft (fl : (Nat → Int32)) (px : (Nat → Int32)) (v1 v2 : Int32) (K : (Nat → Int32) → Prop) : Prop := ∃ k : Nat, wl_X2_lookLeft_2 v1 v2 px K (fun (v3_9 : Int32) (fl_9 : (Nat → Int32)) => K fl_9) k 0 fl
abbrev jw_X2_lookLeft : List Cond := .code yX2_lookLeft cX2_lookLeft 4 none :: jmAll
abbrev rmX2_lookLeft : Room := { frames := 1, cells := 0, slots := 0, locals := 22 }
set_option maxHeartbeats 4000000 in
set_option maxRecDepth 100000 in
theorem c_X2_lookLeft (l : Launch) (D : va_G) (cI cB : ClassId) (tt : Nat × Nat × Nat) (a_fo a_fol a_pi a_pix : Nat) (sz : Nat) (fa : Int32) (ff : Int32) (fm : Int32) (fl : (Nat → Int32)) (pa : Int32) (pd : Int32) (px : (Nat → Int32)) (v1 v2 : Int32) {K : (Nat → Int32) → Prop} (h : wp_X2_lookLeft fl px v1 v2 K) : Met l yX2_lookLeft jw_X2_lookLeft rmX2_lookLeft (va_Pc [.ref a_fo, .int v1, .int v2] (jm_Pre D cI cB tt (wd_fo_fol_pi_pix cI cB a_fo a_fol a_pi a_pix fa ff fm fl pa pd px) sz)) (va_Qv (fun (u : (Nat → Int32)) => K u) (jm_Post D cI cB (wd_fo_fol_pi_pix cI cB a_fo a_fol a_pi a_pix fa ff fm fl pa pd px) sz (fun (u : (Nat → Int32)) => wd_fo_fol_pi_pix cI cB a_fo a_fol a_pi a_pix fa ff fm u pa pd px)) (va_A (wd_fo_fol_pi_pix cI cB a_fo a_fol a_pi a_pix fa ff fm fl pa pd px) sz)) 0 0 (va_A (wd_fo_fol_pi_pix cI cB a_fo a_fol a_pi a_pix fa ff fm fl pa pd px) sz) := by
  refine jm_metV (by decide +kernel) rfl rfl (Nat.le_of_ble_eq_true rfl) ?_
  intro p e s m args below meth c A Q ls C0 hP hD hl hret
  obtain ⟨hx, hb, hml, hr, hown, hts, hlocks, hA, hK, hE⟩ := C0
  have hS : va_S A s.heap s.heap [] := va_S.rf
  have hl : lv_has ls 4 [(0, .ref a_fo), (1, .int v1), (2, .int v2)] := hl
  unfold wp_X2_lookLeft at h
  have hP : va_P D vwCl [(a_fo, .inr (2, [.ref a_pi, .ref a_fol, .int fa, .int ff, .int fm])), (a_fol, .inl (cI, 17, .inl fl)), (a_pi, .inr (3, [.ref a_pix, .int pa, .int pd])), (a_pix, .inl (cI, 1024, .inl px))] s.heap := hP
  have hD : va_D A [(a_fo, .inr (2, [.ref a_pi, .ref a_fol, .int fa, .int ff, .int fm])), (a_fol, .inl (cI, 17, .inl fl)), (a_pi, .inr (3, [.ref a_pix, .int pa, .int pd])), (a_pix, .inl (cI, 1024, .inl px))] := hD
  have iX2 : ∀ w ∈ wsX20, w ∈ jw_X2_lookLeft := fun w h => List.mem_cons_of_mem _ (jm_iX2 w h)
  have lk11 := hts (.fieldLink RX2 11 "IntraMill$Foretelling" "line" "[I") (List.mem_cons_of_mem _ mw_107)
  have lk15 := hts (.fieldLink RX2 15 "IntraMill$Foretelling" "picture" "LIntraMill$Picture;") (List.mem_cons_of_mem _ mw_106)
  refine lv_iconst (v := 0) hx hb dX2_lookLeft_0 (by decide) ?_
  refine lv_istore_n (lv' := [(3, .int 0), (0, .ref a_fo), (1, .int v1), (2, .int v2)]) hx hb dX2_lookLeft_1 rfl hl (by decide) rfl (fun ls hl => ?_)
  obtain ⟨n_9, h⟩ := h
  have hL_9 : ∀ (v1 : Int32) (v2 : Int32) (X : Int32 → (Nat → Int32) → Prop), (∀ (v3 : Int32) (fl : (Nat → Int32)), ∀ (H : Heap) (locs : List Loc) (ls : Array Slot), X v3 fl → va_P D vwCl [(a_fo, .inr (2, [.ref a_pi, .ref a_fol, .int fa, .int ff, .int fm])), (a_fol, .inl (cI, 17, .inl fl)), (a_pi, .inr (3, [.ref a_pix, .int pa, .int pd])), (a_pix, .inl (cI, 1024, .inl px))] H → va_D A [(a_fo, .inr (2, [.ref a_pi, .ref a_fol, .int fa, .int ff, .int fm])), (a_fol, .inl (cI, 17, .inl fl)), (a_pi, .inr (3, [.ref a_pix, .int pa, .int pd])), (a_pix, .inl (cI, 1024, .inl px))] → va_S A s.heap H locs → lv_has ls 4 [(0, .ref a_fo), (1, .int v1), (2, .int v2), (3, .int v3)] → W p l e rmX2_lookLeft s m args below meth c H locs 0 0 Q (F0 m 51 ls [])) → ∀ (n : Nat) (v3 : Int32) (fl : (Nat → Int32)), ∀ (H : Heap) (locs : List Loc) (ls : Array Slot), wl_X2_lookLeft_2 v1 v2 px K X n v3 fl → va_P D vwCl [(a_fo, .inr (2, [.ref a_pi, .ref a_fol, .int fa, .int ff, .int fm])), (a_fol, .inl (cI, 17, .inl fl)), (a_pi, .inr (3, [.ref a_pix, .int pa, .int pd])), (a_pix, .inl (cI, 1024, .inl px))] H → va_D A [(a_fo, .inr (2, [.ref a_pi, .ref a_fol, .int fa, .int ff, .int fm])), (a_fol, .inl (cI, 17, .inl fl)), (a_pi, .inr (3, [.ref a_pix, .int pa, .int pd])), (a_pix, .inl (cI, 1024, .inl px))] → va_S A s.heap H locs → lv_has ls 4 [(0, .ref a_fo), (1, .int v1), (2, .int v2), (3, .int v3)] → W p l e rmX2_lookLeft s m args below meth c H locs 0 0 Q (F0 m 2 ls []) := by
    intro v1 v2 X hX n
    induction n with
    | zero => intro v3 fl H locs ls h; rw [wl_X2_lookLeft_2] at h; exact h.elim
    | succ n ih =>
      intro v3 fl H locs ls h hP hD hS hl
      rw [wl_X2_lookLeft_2] at h
      refine lv_iload_n hx hb dX2_lookLeft_2 rfl (lv_at hl 3 rfl) ?_
      refine lv_bipush (v := 7) hx hb dX2_lookLeft_3 (by decide) ?_
      refine lv_icmp_ge (tgt := 51) hx hb dX2_lookLeft_5 (by decide) (fun c_1 => ?_) (fun c_1 => ?_)
      · have h := h.1 c_1
        exact hX v3 fl H _ _ h hP hD hS (lv_sub hl [0, 1, 2, 3] rfl)
      · have h := h.2 c_1
        refine lv_aload_n hx hb dX2_lookLeft_8 rfl (lv_at hl 0 rfl) ?_
        refine va_get (D := D) (ci := 2) (v := .ref a_fol) (C := RX2) (T := TX2) (N := 5) hx hb hts iX2 hown hK hP 0 rfl rfl 1 (by decide) lk11 (fun _ h9 => h9) rfl dX2_lookLeft_9 ?_
        refine lv_bipush (v := 6) hx hb dX2_lookLeft_12 (by decide) ?_
        refine lv_iload_n hx hb dX2_lookLeft_14 rfl (lv_at hl 3 rfl) ?_
        refine lv_isub hx hb dX2_lookLeft_15 ?_
        refine lv_iload_n hx hb dX2_lookLeft_16 rfl (lv_at hl 3 rfl) ?_
        refine lv_iconst (v := 4) hx hb dX2_lookLeft_17 (by decide) ?_
        obtain ⟨J_2, hj_2, h⟩ := jn1_out h
        have hJ_2 : ∀ (t0_2 : Int32), ∀ (H : Heap) (locs : List Loc) (ls : Array Slot), J_2 t0_2 → va_P D vwCl [(a_fo, .inr (2, [.ref a_pi, .ref a_fol, .int fa, .int ff, .int fm])), (a_fol, .inl (cI, 17, .inl fl)), (a_pi, .inr (3, [.ref a_pix, .int pa, .int pd])), (a_pix, .inl (cI, 1024, .inl px))] H → va_D A [(a_fo, .inr (2, [.ref a_pi, .ref a_fol, .int fa, .int ff, .int fm])), (a_fol, .inl (cI, 17, .inl fl)), (a_pi, .inr (3, [.ref a_pix, .int pa, .int pd])), (a_pix, .inl (cI, 1024, .inl px))] → va_S A s.heap H locs → lv_has ls 4 [(0, .ref a_fo), (1, .int v1), (2, .int v2), (3, .int v3)] → W p l e rmX2_lookLeft s m args below meth c H locs 0 0 Q (F0 m 44 ls [.int t0_2, .int (6 - v3), .ref a_fol]) := by
          intro t0_2 H locs ls h hP hD hS hl
          have h := hj_2 t0_2 h
          obtain ⟨hi_3, h⟩ := h
          refine va_iast hx hb hK hP hD hS 1 0 rfl rfl hi_3 dX2_lookLeft_44 (fun H_4 locs hP hD hS => ?_)
          have hP : va_P D vwCl [(a_fo, .inr (2, [.ref a_pi, .ref a_fol, .int fa, .int ff, .int fm])), (a_fol, .inl (cI, 17, .inl (jup fl (6 - v3) t0_2))), (a_pi, .inr (3, [.ref a_pix, .int pa, .int pd])), (a_pix, .inl (cI, 1024, .inl px))] H_4 := hP
          have hD : va_D A [(a_fo, .inr (2, [.ref a_pi, .ref a_fol, .int fa, .int ff, .int fm])), (a_fol, .inl (cI, 17, .inl (jup fl (6 - v3) t0_2))), (a_pi, .inr (3, [.ref a_pix, .int pa, .int pd])), (a_pix, .inl (cI, 1024, .inl px))] := hD
          obtain ⟨x3_5, ex3_5⟩ : ∃ y : Int32, y = v3 + 1 := ⟨_, rfl⟩
          have h := h x3_5 ex3_5
          refine lv_iinc (v := x3_5) (lv' := [(3, .int x3_5), (0, .ref a_fo), (1, .int v1), (2, .int v2)]) hx hb dX2_lookLeft_45 hl (k := 3) rfl (by rw [ex3_5]; rfl) (by decide) rfl (fun ls hl => ?_)
          refine lv_goto (tgt := 2) hx hb dX2_lookLeft_48 (by decide) ?_
          exact ih x3_5 (jup fl (6 - v3) t0_2) H_4 _ _ h hP hD hS (lv_sub hl [1, 2, 3, 0] rfl)
        refine lv_icmp_ge (tgt := 35) hx hb dX2_lookLeft_18 (by decide) (fun c_6 => ?_) (fun c_6 => ?_)
        · have h := h.1 c_6
          refine lv_aload_n hx hb dX2_lookLeft_35 rfl (lv_at hl 0 rfl) ?_
          refine va_get (D := D) (ci := 2) (v := .ref a_fol) (C := RX2) (T := TX2) (N := 5) hx hb hts iX2 hown hK hP 0 rfl rfl 1 (by decide) lk11 (fun _ h9 => h9) rfl dX2_lookLeft_36 ?_
          refine lv_bipush (v := 7) hx hb dX2_lookLeft_39 (by decide) ?_
          refine lv_iload_n hx hb dX2_lookLeft_41 rfl (lv_at hl 3 rfl) ?_
          refine lv_isub hx hb dX2_lookLeft_42 ?_
          obtain ⟨hi_7, h⟩ := h
          refine va_iald hx hb hK hP 1 0 rfl rfl hi_7 dX2_lookLeft_43 ?_
          exact hJ_2 (jat fl (7 - v3)) H _ _ h hP hD hS (lv_sub hl [0, 1, 2, 3] rfl)
        · have h := h.2 c_6
          refine lv_aload_n hx hb dX2_lookLeft_21 rfl (lv_at hl 0 rfl) ?_
          refine va_get (D := D) (ci := 2) (v := .ref a_pi) (C := RX2) (T := TX2) (N := 5) hx hb hts iX2 hown hK hP 0 rfl rfl 0 (by decide) lk15 (fun _ h9 => h9) rfl dX2_lookLeft_22 ?_
          refine lv_iload_n hx hb dX2_lookLeft_25 rfl (lv_at hl 1 rfl) ?_
          refine lv_iload_n hx hb dX2_lookLeft_26 rfl (lv_at hl 2 rfl) ?_
          refine lv_iload_n hx hb dX2_lookLeft_27 rfl (lv_at hl 3 rfl) ?_
          refine lv_iadd hx hb dX2_lookLeft_28 ?_
          have hPc := hP.sub (ws' := [(a_pi, .inr (3, [.ref a_pix, .int pa, .int pd])), (a_pix, .inl (cI, 1024, .inl px))]) [2, 3] rfl
          have hDc := hD.sub (ws' := [(a_pi, .inr (3, [.ref a_pix, .int pa, .int pd])), (a_pix, .inl (cI, 1024, .inl px))]) [2, 3] (by decide) rfl
          have hFc := va_free (wc := [(a_pi, .inr (3, [.ref a_pix, .int pa, .int pd])), (a_pix, .inl (cI, 1024, .inl px))]) hD hS hA [2, 3] rfl
          refine jm_calli (wr := [(a_fo, .inr (2, [.ref a_pi, .ref a_fol, .int fa, .int ff, .int fm])), (a_fol, .inl (cI, 17, .inl fl))]) (va_runV (As := [.int v1, .int (v2 + v3)]) (rest := [.int (6 - v3), .ref a_fol]) ⟨hx, hb, hml, hown, hts⟩ (c_X3_get l D cI cB tt a_pi a_pix H.size pa pd px v1 (v2 + v3) h) (cwV 2 hts (jm_gV mw_418 mw_298 mw_299 mw_56 mw_300) rfl rfl rfl (by decide +kernel) ⟨Nat.le_of_ble_eq_true rfl, Nat.le_of_ble_eq_true rfl⟩) ⟨jm_blind, va_recv hK hPc (ci := 3) (q0 := 0) rfl rfl, jm_pre hK hE hS hPc hDc hFc _⟩ rfl rfl hl.1 rfl (lv_room (Nat.le_of_ble_eq_true rfl)) dX2_lookLeft_29 ⟨Nat.zero_le _, Nat.zero_le _⟩) hS hP hD [2, 3] [0, 1] rfl rfl (by decide) (by decide) hFc (fun r_8 u_8 H_8 locs hw hP hD hS => ?_)
          have h := hw
          have hP : va_P D vwCl [(a_fo, .inr (2, [.ref a_pi, .ref a_fol, .int fa, .int ff, .int fm])), (a_fol, .inl (cI, 17, .inl fl)), (a_pi, .inr (3, [.ref a_pix, .int pa, .int pd])), (a_pix, .inl (cI, 1024, .inl px))] H_8 := hP.sub [0, 1, 2, 3] rfl
          have hD : va_D A [(a_fo, .inr (2, [.ref a_pi, .ref a_fol, .int fa, .int ff, .int fm])), (a_fol, .inl (cI, 17, .inl fl)), (a_pi, .inr (3, [.ref a_pix, .int pa, .int pd])), (a_pix, .inl (cI, 1024, .inl px))] := hD.sub [0, 1, 2, 3] (by decide) rfl
          refine lv_goto (tgt := 44) hx hb dX2_lookLeft_32 (by decide) ?_
          exact hJ_2 r_8 H_8 _ _ h hP hD hS (lv_sub hl [0, 1, 2, 3] rfl)
  refine hL_9 v1 v2 _ ?_ n_9 0 fl s.heap _ _ h hP hD hS (lv_sub hl [1, 2, 3, 0] rfl)
  intro v3_9 fl_9 H locs ls h hP hD hS hl
  exact hret (fl_9) _ _ _ _ dX2_lookLeft_51 h hP hD hS
def wl_X2_sumOfSide_4 (v1 : Int32) (fl : (Nat → Int32)) (K : Int32 → Prop) (X : Int32 → Int32 → Prop) : Nat → Int32 → Int32 → Prop
  | 0, _, _ => False
  | n + 1, v2, v3 => ((4 < v3 → X v2 v3) ∧ (¬ 4 < v3 → vp_in (7 + (v1 * v3)) 17 ∧ ∀ x2_3 : Int32, x2_3 = v2 + (jat fl (7 + (v1 * v3))) → ∀ x3_4 : Int32, x3_4 = v3 + 1 → wl_X2_sumOfSide_4 v1 fl K X n x2_3 x3_4))
def wp_X2_sumOfSide (fl : (Nat → Int32)) (v1 : Int32) (K : Int32 → Prop) : Prop := ∃ k : Nat, wl_X2_sumOfSide_4 v1 fl K (fun (v2_5 : Int32) (v3_5 : Int32) => K v2_5) k 0 1
abbrev jw_X2_sumOfSide : List Cond := .code yX2_sumOfSide cX2_sumOfSide 4 (some .int) :: jmAll
abbrev rmX2_sumOfSide : Room := { frames := 0, cells := 0, slots := 0, locals := 0 }
set_option maxHeartbeats 4000000 in
set_option maxRecDepth 100000 in
theorem c_X2_sumOfSide (l : Launch) (D : va_G) (cI cB : ClassId) (tt : Nat × Nat × Nat) (a_fo a_fol a_pi a_pix : Nat) (sz : Nat) (fa : Int32) (ff : Int32) (fm : Int32) (fl : (Nat → Int32)) (pa : Int32) (pd : Int32) (px : (Nat → Int32)) (v1 : Int32) {K : Int32 → Prop} (h : wp_X2_sumOfSide fl v1 K) : Met l yX2_sumOfSide jw_X2_sumOfSide rmX2_sumOfSide (va_Pc [.ref a_fo, .int v1] (jm_Pre D cI cB tt (wd_fo_fol_pi_pix cI cB a_fo a_fol a_pi a_pix fa ff fm fl pa pd px) sz)) (va_Qi (fun (r : Int32) (u : Unit) => K r) (jm_Post D cI cB (wd_fo_fol_pi_pix cI cB a_fo a_fol a_pi a_pix fa ff fm fl pa pd px) sz (fun (u : Unit) => wd_fo_fol_pi_pix cI cB a_fo a_fol a_pi a_pix fa ff fm fl pa pd px)) (va_A (wd_fo_fol_pi_pix cI cB a_fo a_fol a_pi a_pix fa ff fm fl pa pd px) sz)) 0 0 (va_A (wd_fo_fol_pi_pix cI cB a_fo a_fol a_pi a_pix fa ff fm fl pa pd px) sz) := by
  refine jm_metI (by decide +kernel) rfl rfl (Nat.le_of_ble_eq_true rfl) ?_
  intro p e s m args below meth c A Q ls C0 hP hD hl hret
  obtain ⟨hx, hb, hml, hr, hown, hts, hlocks, hA, hK, hE⟩ := C0
  have hS : va_S A s.heap s.heap [] := va_S.rf
  have hl : lv_has ls 4 [(0, .ref a_fo), (1, .int v1)] := hl
  unfold wp_X2_sumOfSide at h
  have hP : va_P D vwCl [(a_fo, .inr (2, [.ref a_pi, .ref a_fol, .int fa, .int ff, .int fm])), (a_fol, .inl (cI, 17, .inl fl)), (a_pi, .inr (3, [.ref a_pix, .int pa, .int pd])), (a_pix, .inl (cI, 1024, .inl px))] s.heap := hP
  have hD : va_D A [(a_fo, .inr (2, [.ref a_pi, .ref a_fol, .int fa, .int ff, .int fm])), (a_fol, .inl (cI, 17, .inl fl)), (a_pi, .inr (3, [.ref a_pix, .int pa, .int pd])), (a_pix, .inl (cI, 1024, .inl px))] := hD
  have iX2 : ∀ w ∈ wsX20, w ∈ jw_X2_sumOfSide := fun w h => List.mem_cons_of_mem _ (jm_iX2 w h)
  have lk11 := hts (.fieldLink RX2 11 "IntraMill$Foretelling" "line" "[I") (List.mem_cons_of_mem _ mw_107)
  refine lv_iconst (v := 0) hx hb dX2_sumOfSide_0 (by decide) ?_
  refine lv_istore_n (lv' := [(2, .int 0), (0, .ref a_fo), (1, .int v1)]) hx hb dX2_sumOfSide_1 rfl hl (by decide) rfl (fun ls hl => ?_)
  refine lv_iconst (v := 1) hx hb dX2_sumOfSide_2 (by decide) ?_
  refine lv_istore_n (lv' := [(3, .int 1), (2, .int 0), (0, .ref a_fo), (1, .int v1)]) hx hb dX2_sumOfSide_3 rfl hl (by decide) rfl (fun ls hl => ?_)
  obtain ⟨n_5, h⟩ := h
  have hL_5 : ∀ (v1 : Int32) (X : Int32 → Int32 → Prop), (∀ (v2 : Int32) (v3 : Int32), ∀ (H : Heap) (locs : List Loc) (ls : Array Slot), X v2 v3 → va_P D vwCl [(a_fo, .inr (2, [.ref a_pi, .ref a_fol, .int fa, .int ff, .int fm])), (a_fol, .inl (cI, 17, .inl fl)), (a_pi, .inr (3, [.ref a_pix, .int pa, .int pd])), (a_pix, .inl (cI, 1024, .inl px))] H → va_D A [(a_fo, .inr (2, [.ref a_pi, .ref a_fol, .int fa, .int ff, .int fm])), (a_fol, .inl (cI, 17, .inl fl)), (a_pi, .inr (3, [.ref a_pix, .int pa, .int pd])), (a_pix, .inl (cI, 1024, .inl px))] → va_S A s.heap H locs → lv_has ls 4 [(0, .ref a_fo), (1, .int v1), (2, .int v2), (3, .int v3)] → W p l e rmX2_sumOfSide s m args below meth c H locs 0 0 Q (F0 m 29 ls [])) → ∀ (n : Nat) (v2 : Int32) (v3 : Int32), ∀ (H : Heap) (locs : List Loc) (ls : Array Slot), wl_X2_sumOfSide_4 v1 fl K X n v2 v3 → va_P D vwCl [(a_fo, .inr (2, [.ref a_pi, .ref a_fol, .int fa, .int ff, .int fm])), (a_fol, .inl (cI, 17, .inl fl)), (a_pi, .inr (3, [.ref a_pix, .int pa, .int pd])), (a_pix, .inl (cI, 1024, .inl px))] H → va_D A [(a_fo, .inr (2, [.ref a_pi, .ref a_fol, .int fa, .int ff, .int fm])), (a_fol, .inl (cI, 17, .inl fl)), (a_pi, .inr (3, [.ref a_pix, .int pa, .int pd])), (a_pix, .inl (cI, 1024, .inl px))] → va_S A s.heap H locs → lv_has ls 4 [(0, .ref a_fo), (1, .int v1), (2, .int v2), (3, .int v3)] → W p l e rmX2_sumOfSide s m args below meth c H locs 0 0 Q (F0 m 4 ls []) := by
    intro v1 X hX n
    induction n with
    | zero => intro v2 v3 H locs ls h; rw [wl_X2_sumOfSide_4] at h; exact h.elim
    | succ n ih =>
      intro v2 v3 H locs ls h hP hD hS hl
      rw [wl_X2_sumOfSide_4] at h
      refine lv_iload_n hx hb dX2_sumOfSide_4 rfl (lv_at hl 3 rfl) ?_
      refine lv_iconst (v := 4) hx hb dX2_sumOfSide_5 (by decide) ?_
      refine lv_icmp_gt (tgt := 29) hx hb dX2_sumOfSide_6 (by decide) (fun c_1 => ?_) (fun c_1 => ?_)
      · have h := h.1 c_1
        exact hX v2 v3 H _ _ h hP hD hS (lv_sub hl [0, 1, 2, 3] rfl)
      · have h := h.2 c_1
        refine lv_iload_n hx hb dX2_sumOfSide_9 rfl (lv_at hl 2 rfl) ?_
        refine lv_aload_n hx hb dX2_sumOfSide_10 rfl (lv_at hl 0 rfl) ?_
        refine va_get (D := D) (ci := 2) (v := .ref a_fol) (C := RX2) (T := TX2) (N := 5) hx hb hts iX2 hown hK hP 0 rfl rfl 1 (by decide) lk11 (fun _ h9 => h9) rfl dX2_sumOfSide_11 ?_
        refine lv_bipush (v := 7) hx hb dX2_sumOfSide_14 (by decide) ?_
        refine lv_iload_n hx hb dX2_sumOfSide_16 rfl (lv_at hl 1 rfl) ?_
        refine lv_iload_n hx hb dX2_sumOfSide_17 rfl (lv_at hl 3 rfl) ?_
        refine lv_imul hx hb dX2_sumOfSide_18 ?_
        refine lv_iadd hx hb dX2_sumOfSide_19 ?_
        obtain ⟨hi_2, h⟩ := h
        refine va_iald hx hb hK hP 1 0 rfl rfl hi_2 dX2_sumOfSide_20 ?_
        refine lv_iadd hx hb dX2_sumOfSide_21 ?_
        refine lv_topi (fun x2_3 ex2_3 => ?_)
        have h := h x2_3 ex2_3
        refine lv_istore_n (lv' := [(2, .int x2_3), (0, .ref a_fo), (1, .int v1), (3, .int v3)]) hx hb dX2_sumOfSide_22 rfl hl (by decide) rfl (fun ls hl => ?_)
        obtain ⟨x3_4, ex3_4⟩ : ∃ y : Int32, y = v3 + 1 := ⟨_, rfl⟩
        have h := h x3_4 ex3_4
        refine lv_iinc (v := x3_4) (lv' := [(3, .int x3_4), (2, .int x2_3), (0, .ref a_fo), (1, .int v1)]) hx hb dX2_sumOfSide_23 hl (k := 3) rfl (by rw [ex3_4]; rfl) (by decide) rfl (fun ls hl => ?_)
        refine lv_goto (tgt := 4) hx hb dX2_sumOfSide_26 (by decide) ?_
        exact ih x2_3 x3_4 H _ _ h hP hD hS (lv_sub hl [2, 3, 1, 0] rfl)
  refine hL_5 v1 _ ?_ n_5 0 1 s.heap _ _ h hP hD hS (lv_sub hl [2, 3, 1, 0] rfl)
  intro v2_5 v3_5 H locs ls h hP hD hS hl
  refine lv_iload_n hx hb dX2_sumOfSide_29 rfl (lv_at hl 2 rfl) ?_
  exact hret v2_5 () _ _ _ _ dX2_sumOfSide_30 (vp_nar_int _) h hP hD hS
def wp_X2_meanOfSides (fa : Int32) (ff : Int32) (fl : (Nat → Int32)) (K : Int32 → Prop) : Prop := jn0 (jn0 (jn1 (fun (t0_3 : Int32) => wp_X2_sumOfSide fl t0_3 (fun (r_4 : Int32) => K ((r_4 + 2) / 4))) (fun J_3 => ((fa = 0 → J_3 (-1)) ∧ (¬ fa = 0 → J_3 1)))) (fun J_2 => ((fa = 0 → ((ff = 0 → K 128) ∧ (¬ ff = 0 → J_2))) ∧ (¬ fa = 0 → J_2)))) (fun J_1 => ((fa = 0 → J_1) ∧ (¬ fa = 0 → ((ff = 0 → J_1) ∧ (¬ ff = 0 → wp_X2_sumOfSide fl 1 (fun (r_10 : Int32) => wp_X2_sumOfSide fl (-1) (fun (r_11 : Int32) => K (((r_10 + r_11) + 4) / 8))))))))
abbrev jw_X2_meanOfSides : List Cond := .code yX2_meanOfSides cX2_meanOfSides 1 (some .int) :: jmAll
abbrev rmX2_meanOfSides : Room := { frames := 1, cells := 0, slots := 0, locals := 23 }
set_option maxHeartbeats 4000000 in
set_option maxRecDepth 100000 in
theorem c_X2_meanOfSides (l : Launch) (D : va_G) (cI cB : ClassId) (tt : Nat × Nat × Nat) (a_fo a_fol a_pi a_pix : Nat) (sz : Nat) (fa : Int32) (ff : Int32) (fm : Int32) (fl : (Nat → Int32)) (pa : Int32) (pd : Int32) (px : (Nat → Int32)) {K : Int32 → Prop} (h : wp_X2_meanOfSides fa ff fl K) : Met l yX2_meanOfSides jw_X2_meanOfSides rmX2_meanOfSides (va_Pc [.ref a_fo] (jm_Pre D cI cB tt (wd_fo_fol_pi_pix cI cB a_fo a_fol a_pi a_pix fa ff fm fl pa pd px) sz)) (va_Qi (fun (r : Int32) (u : Unit) => K r) (jm_Post D cI cB (wd_fo_fol_pi_pix cI cB a_fo a_fol a_pi a_pix fa ff fm fl pa pd px) sz (fun (u : Unit) => wd_fo_fol_pi_pix cI cB a_fo a_fol a_pi a_pix fa ff fm fl pa pd px)) (va_A (wd_fo_fol_pi_pix cI cB a_fo a_fol a_pi a_pix fa ff fm fl pa pd px) sz)) 0 0 (va_A (wd_fo_fol_pi_pix cI cB a_fo a_fol a_pi a_pix fa ff fm fl pa pd px) sz) := by
  refine jm_metI (by decide +kernel) rfl rfl (Nat.le_of_ble_eq_true rfl) ?_
  intro p e s m args below meth c A Q ls C0 hP hD hl hret
  obtain ⟨hx, hb, hml, hr, hown, hts, hlocks, hA, hK, hE⟩ := C0
  have hS : va_S A s.heap s.heap [] := va_S.rf
  have hl : lv_has ls 1 [(0, .ref a_fo)] := hl
  unfold wp_X2_meanOfSides at h
  have hP : va_P D vwCl [(a_fo, .inr (2, [.ref a_pi, .ref a_fol, .int fa, .int ff, .int fm])), (a_fol, .inl (cI, 17, .inl fl)), (a_pi, .inr (3, [.ref a_pix, .int pa, .int pd])), (a_pix, .inl (cI, 1024, .inl px))] s.heap := hP
  have hD : va_D A [(a_fo, .inr (2, [.ref a_pi, .ref a_fol, .int fa, .int ff, .int fm])), (a_fol, .inl (cI, 17, .inl fl)), (a_pi, .inr (3, [.ref a_pix, .int pa, .int pd])), (a_pix, .inl (cI, 1024, .inl px))] := hD
  have iX2 : ∀ w ∈ wsX20, w ∈ jw_X2_meanOfSides := fun w h => List.mem_cons_of_mem _ (jm_iX2 w h)
  have lk28 := hts (.fieldLink RX2 28 "IntraMill$Foretelling" "above" "Z") (List.mem_cons_of_mem _ mw_108)
  have lk32 := hts (.fieldLink RX2 32 "IntraMill$Foretelling" "left" "Z") (List.mem_cons_of_mem _ mw_109)
  refine lv_aload_n hx hb dX2_meanOfSides_0 rfl (lv_at hl 0 rfl) ?_
  refine va_get (D := D) (ci := 2) (v := .int fa) (C := RX2) (T := TX2) (N := 5) hx hb hts iX2 hown hK hP 0 rfl rfl 2 (by decide) lk28 (fun _ h9 => h9) rfl dX2_meanOfSides_1 ?_
  obtain ⟨J_1, hj_1, h⟩ := jn0_out h
  have hJ_1 : ∀ (H : Heap) (locs : List Loc) (ls : Array Slot), J_1 → va_P D vwCl [(a_fo, .inr (2, [.ref a_pi, .ref a_fol, .int fa, .int ff, .int fm])), (a_fol, .inl (cI, 17, .inl fl)), (a_pi, .inr (3, [.ref a_pix, .int pa, .int pd])), (a_pix, .inl (cI, 1024, .inl px))] H → va_D A [(a_fo, .inr (2, [.ref a_pi, .ref a_fol, .int fa, .int ff, .int fm])), (a_fol, .inl (cI, 17, .inl fl)), (a_pi, .inr (3, [.ref a_pix, .int pa, .int pd])), (a_pix, .inl (cI, 1024, .inl px))] → va_S A s.heap H locs → lv_has ls 1 [(0, .ref a_fo)] → W p l e rmX2_meanOfSides s m args below meth c H locs 0 0 Q (F0 m 31 ls []) := by
    intro  H locs ls h hP hD hS hl
    have h := hj_1 h
    refine lv_aload_n hx hb dX2_meanOfSides_31 rfl (lv_at hl 0 rfl) ?_
    refine va_get (D := D) (ci := 2) (v := .int fa) (C := RX2) (T := TX2) (N := 5) hx hb hts iX2 hown hK hP 0 rfl rfl 2 (by decide) lk28 (fun _ h9 => h9) rfl dX2_meanOfSides_32 ?_
    obtain ⟨J_2, hj_2, h⟩ := jn0_out h
    have hJ_2 : ∀ (H : Heap) (locs : List Loc) (ls : Array Slot), J_2 → va_P D vwCl [(a_fo, .inr (2, [.ref a_pi, .ref a_fol, .int fa, .int ff, .int fm])), (a_fol, .inl (cI, 17, .inl fl)), (a_pi, .inr (3, [.ref a_pix, .int pa, .int pd])), (a_pix, .inl (cI, 1024, .inl px))] H → va_D A [(a_fo, .inr (2, [.ref a_pi, .ref a_fol, .int fa, .int ff, .int fm])), (a_fol, .inl (cI, 17, .inl fl)), (a_pi, .inr (3, [.ref a_pix, .int pa, .int pd])), (a_pix, .inl (cI, 1024, .inl px))] → va_S A s.heap H locs → lv_has ls 1 [(0, .ref a_fo)] → W p l e rmX2_meanOfSides s m args below meth c H locs 0 0 Q (F0 m 45 ls []) := by
      intro  H locs ls h hP hD hS hl
      have h := hj_2 h
      refine lv_aload_n hx hb dX2_meanOfSides_45 rfl (lv_at hl 0 rfl) ?_
      refine lv_aload_n hx hb dX2_meanOfSides_46 rfl (lv_at hl 0 rfl) ?_
      refine va_get (D := D) (ci := 2) (v := .int fa) (C := RX2) (T := TX2) (N := 5) hx hb hts iX2 hown hK hP 0 rfl rfl 2 (by decide) lk28 (fun _ h9 => h9) rfl dX2_meanOfSides_47 ?_
      obtain ⟨J_3, hj_3, h⟩ := jn1_out h
      have hJ_3 : ∀ (t0_3 : Int32), ∀ (H : Heap) (locs : List Loc) (ls : Array Slot), J_3 t0_3 → va_P D vwCl [(a_fo, .inr (2, [.ref a_pi, .ref a_fol, .int fa, .int ff, .int fm])), (a_fol, .inl (cI, 17, .inl fl)), (a_pi, .inr (3, [.ref a_pix, .int pa, .int pd])), (a_pix, .inl (cI, 1024, .inl px))] H → va_D A [(a_fo, .inr (2, [.ref a_pi, .ref a_fol, .int fa, .int ff, .int fm])), (a_fol, .inl (cI, 17, .inl fl)), (a_pi, .inr (3, [.ref a_pix, .int pa, .int pd])), (a_pix, .inl (cI, 1024, .inl px))] → va_S A s.heap H locs → lv_has ls 1 [(0, .ref a_fo)] → W p l e rmX2_meanOfSides s m args below meth c H locs 0 0 Q (F0 m 58 ls [.int t0_3, .ref a_fo]) := by
        intro t0_3 H locs ls h hP hD hS hl
        have h := hj_3 t0_3 h
        have hPc := hP.sub (ws' := [(a_fo, .inr (2, [.ref a_pi, .ref a_fol, .int fa, .int ff, .int fm])), (a_fol, .inl (cI, 17, .inl fl)), (a_pi, .inr (3, [.ref a_pix, .int pa, .int pd])), (a_pix, .inl (cI, 1024, .inl px))]) [0, 1, 2, 3] rfl
        have hDc := hD.sub (ws' := [(a_fo, .inr (2, [.ref a_pi, .ref a_fol, .int fa, .int ff, .int fm])), (a_fol, .inl (cI, 17, .inl fl)), (a_pi, .inr (3, [.ref a_pix, .int pa, .int pd])), (a_pix, .inl (cI, 1024, .inl px))]) [0, 1, 2, 3] (by decide) rfl
        have hFc := va_free (wc := [(a_fo, .inr (2, [.ref a_pi, .ref a_fol, .int fa, .int ff, .int fm])), (a_fol, .inl (cI, 17, .inl fl)), (a_pi, .inr (3, [.ref a_pix, .int pa, .int pd])), (a_pix, .inl (cI, 1024, .inl px))]) hD hS hA [0, 1, 2, 3] rfl
        refine jm_calli (wr := []) (va_runV (As := [.int t0_3]) (rest := []) ⟨hx, hb, hml, hown, hts⟩ (c_X2_sumOfSide l D cI cB tt a_fo a_fol a_pi a_pix H.size fa ff fm fl pa pd px t0_3 h) (cwV 1 hts (jm_gV mw_427 mw_429 mw_7 mw_57 mw_430) rfl rfl rfl (by decide +kernel) ⟨Nat.le_of_ble_eq_true rfl, Nat.le_of_ble_eq_true rfl⟩) ⟨jm_blind, va_recv hK hPc (ci := 2) (q0 := 0) rfl rfl, jm_pre hK hE hS hPc hDc hFc _⟩ rfl rfl hl.1 rfl (lv_room (Nat.le_of_ble_eq_true rfl)) dX2_meanOfSides_58 ⟨Nat.zero_le _, Nat.zero_le _⟩) hS hP hD [0, 1, 2, 3] [] rfl rfl (by decide) (by decide) hFc (fun r_4 u_4 H_4 locs hw hP hD hS => ?_)
        have h := hw
        have hP : va_P D vwCl [(a_fo, .inr (2, [.ref a_pi, .ref a_fol, .int fa, .int ff, .int fm])), (a_fol, .inl (cI, 17, .inl fl)), (a_pi, .inr (3, [.ref a_pix, .int pa, .int pd])), (a_pix, .inl (cI, 1024, .inl px))] H_4 := hP.sub [0, 1, 2, 3] rfl
        have hD : va_D A [(a_fo, .inr (2, [.ref a_pi, .ref a_fol, .int fa, .int ff, .int fm])), (a_fol, .inl (cI, 17, .inl fl)), (a_pi, .inr (3, [.ref a_pix, .int pa, .int pd])), (a_pix, .inl (cI, 1024, .inl px))] := hD.sub [0, 1, 2, 3] (by decide) rfl
        refine lv_iconst (v := 2) hx hb dX2_meanOfSides_61 (by decide) ?_
        refine lv_iadd hx hb dX2_meanOfSides_62 ?_
        refine lv_iconst (v := 4) hx hb dX2_meanOfSides_63 (by decide) ?_
        refine lv_idiv hx hb dX2_meanOfSides_64 (by decide) ?_
        exact hret ((r_4 + 2) / 4) () _ _ _ _ dX2_meanOfSides_65 (vp_nar_int _) h hP hD hS
      refine lv_if_eq (tgt := 57) hx hb dX2_meanOfSides_50 (by decide) (fun c_5 => ?_) (fun c_5 => ?_)
      · have h := h.1 c_5
        refine lv_iconst (v := (-1)) hx hb dX2_meanOfSides_57 (by decide) ?_
        exact hJ_3 (-1) H _ _ h hP hD hS (lv_sub hl [0] rfl)
      · have h := h.2 c_5
        refine lv_iconst (v := 1) hx hb dX2_meanOfSides_53 (by decide) ?_
        refine lv_goto (tgt := 58) hx hb dX2_meanOfSides_54 (by decide) ?_
        exact hJ_3 1 H _ _ h hP hD hS (lv_sub hl [0] rfl)
    refine lv_if_ne (tgt := 45) hx hb dX2_meanOfSides_35 (by decide) (fun c_6 => ?_) (fun c_6 => ?_)
    · have h := h.2 c_6
      exact hJ_2  H _ _ h hP hD hS (lv_sub hl [0] rfl)
    · have h := h.1 c_6
      refine lv_aload_n hx hb dX2_meanOfSides_38 rfl (lv_at hl 0 rfl) ?_
      refine va_get (D := D) (ci := 2) (v := .int ff) (C := RX2) (T := TX2) (N := 5) hx hb hts iX2 hown hK hP 0 rfl rfl 3 (by decide) lk32 (fun _ h9 => h9) rfl dX2_meanOfSides_39 ?_
      refine lv_if_eq (tgt := 66) hx hb dX2_meanOfSides_42 (by decide) (fun c_7 => ?_) (fun c_7 => ?_)
      · have h := h.1 c_7
        refine lv_sipush (v := 128) hx hb dX2_meanOfSides_66 (by decide) ?_
        exact hret 128 () _ _ _ _ dX2_meanOfSides_69 (vp_nar_int _) h hP hD hS
      · have h := h.2 c_7
        exact hJ_2  H _ _ h hP hD hS (lv_sub hl [0] rfl)
  refine lv_if_eq (tgt := 31) hx hb dX2_meanOfSides_4 (by decide) (fun c_8 => ?_) (fun c_8 => ?_)
  · have h := h.1 c_8
    exact hJ_1  s.heap _ _ h hP hD hS (lv_sub hl [0] rfl)
  · have h := h.2 c_8
    refine lv_aload_n hx hb dX2_meanOfSides_7 rfl (lv_at hl 0 rfl) ?_
    refine va_get (D := D) (ci := 2) (v := .int ff) (C := RX2) (T := TX2) (N := 5) hx hb hts iX2 hown hK hP 0 rfl rfl 3 (by decide) lk32 (fun _ h9 => h9) rfl dX2_meanOfSides_8 ?_
    refine lv_if_eq (tgt := 31) hx hb dX2_meanOfSides_11 (by decide) (fun c_9 => ?_) (fun c_9 => ?_)
    · have h := h.1 c_9
      exact hJ_1  s.heap _ _ h hP hD hS (lv_sub hl [0] rfl)
    · have h := h.2 c_9
      refine lv_aload_n hx hb dX2_meanOfSides_14 rfl (lv_at hl 0 rfl) ?_
      refine lv_iconst (v := 1) hx hb dX2_meanOfSides_15 (by decide) ?_
      have hPc := hP.sub (ws' := [(a_fo, .inr (2, [.ref a_pi, .ref a_fol, .int fa, .int ff, .int fm])), (a_fol, .inl (cI, 17, .inl fl)), (a_pi, .inr (3, [.ref a_pix, .int pa, .int pd])), (a_pix, .inl (cI, 1024, .inl px))]) [0, 1, 2, 3] rfl
      have hDc := hD.sub (ws' := [(a_fo, .inr (2, [.ref a_pi, .ref a_fol, .int fa, .int ff, .int fm])), (a_fol, .inl (cI, 17, .inl fl)), (a_pi, .inr (3, [.ref a_pix, .int pa, .int pd])), (a_pix, .inl (cI, 1024, .inl px))]) [0, 1, 2, 3] (by decide) rfl
      have hFc := va_free (wc := [(a_fo, .inr (2, [.ref a_pi, .ref a_fol, .int fa, .int ff, .int fm])), (a_fol, .inl (cI, 17, .inl fl)), (a_pi, .inr (3, [.ref a_pix, .int pa, .int pd])), (a_pix, .inl (cI, 1024, .inl px))]) hD hS hA [0, 1, 2, 3] rfl
      refine jm_calli (wr := []) (va_runV (As := [.int 1]) (rest := []) ⟨hx, hb, hml, hown, hts⟩ (c_X2_sumOfSide l D cI cB tt a_fo a_fol a_pi a_pix s.heap.size fa ff fm fl pa pd px 1 h) (cwV 1 hts (jm_gV mw_427 mw_429 mw_7 mw_57 mw_430) rfl rfl rfl (by decide +kernel) ⟨Nat.le_of_ble_eq_true rfl, Nat.le_of_ble_eq_true rfl⟩) ⟨jm_blind, va_recv hK hPc (ci := 2) (q0 := 0) rfl rfl, jm_pre hK hE hS hPc hDc hFc _⟩ rfl rfl hl.1 rfl (lv_room (Nat.le_of_ble_eq_true rfl)) dX2_meanOfSides_16 ⟨Nat.zero_le _, Nat.zero_le _⟩) hS hP hD [0, 1, 2, 3] [] rfl rfl (by decide) (by decide) hFc (fun r_10 u_10 H_10 locs hw hP hD hS => ?_)
      have h := hw
      have hP : va_P D vwCl [(a_fo, .inr (2, [.ref a_pi, .ref a_fol, .int fa, .int ff, .int fm])), (a_fol, .inl (cI, 17, .inl fl)), (a_pi, .inr (3, [.ref a_pix, .int pa, .int pd])), (a_pix, .inl (cI, 1024, .inl px))] H_10 := hP.sub [0, 1, 2, 3] rfl
      have hD : va_D A [(a_fo, .inr (2, [.ref a_pi, .ref a_fol, .int fa, .int ff, .int fm])), (a_fol, .inl (cI, 17, .inl fl)), (a_pi, .inr (3, [.ref a_pix, .int pa, .int pd])), (a_pix, .inl (cI, 1024, .inl px))] := hD.sub [0, 1, 2, 3] (by decide) rfl
      refine lv_aload_n hx hb dX2_meanOfSides_19 rfl (lv_at hl 0 rfl) ?_
      refine lv_iconst (v := (-1)) hx hb dX2_meanOfSides_20 (by decide) ?_
      have hPc := hP.sub (ws' := [(a_fo, .inr (2, [.ref a_pi, .ref a_fol, .int fa, .int ff, .int fm])), (a_fol, .inl (cI, 17, .inl fl)), (a_pi, .inr (3, [.ref a_pix, .int pa, .int pd])), (a_pix, .inl (cI, 1024, .inl px))]) [0, 1, 2, 3] rfl
      have hDc := hD.sub (ws' := [(a_fo, .inr (2, [.ref a_pi, .ref a_fol, .int fa, .int ff, .int fm])), (a_fol, .inl (cI, 17, .inl fl)), (a_pi, .inr (3, [.ref a_pix, .int pa, .int pd])), (a_pix, .inl (cI, 1024, .inl px))]) [0, 1, 2, 3] (by decide) rfl
      have hFc := va_free (wc := [(a_fo, .inr (2, [.ref a_pi, .ref a_fol, .int fa, .int ff, .int fm])), (a_fol, .inl (cI, 17, .inl fl)), (a_pi, .inr (3, [.ref a_pix, .int pa, .int pd])), (a_pix, .inl (cI, 1024, .inl px))]) hD hS hA [0, 1, 2, 3] rfl
      refine jm_calli (wr := []) (va_runV (As := [.int (-1)]) (rest := [.int r_10]) ⟨hx, hb, hml, hown, hts⟩ (c_X2_sumOfSide l D cI cB tt a_fo a_fol a_pi a_pix H_10.size fa ff fm fl pa pd px (-1) h) (cwV 1 hts (jm_gV mw_427 mw_429 mw_7 mw_57 mw_430) rfl rfl rfl (by decide +kernel) ⟨Nat.le_of_ble_eq_true rfl, Nat.le_of_ble_eq_true rfl⟩) ⟨jm_blind, va_recv hK hPc (ci := 2) (q0 := 0) rfl rfl, jm_pre hK hE hS hPc hDc hFc _⟩ rfl rfl hl.1 rfl (lv_room (Nat.le_of_ble_eq_true rfl)) dX2_meanOfSides_21 ⟨Nat.zero_le _, Nat.zero_le _⟩) hS hP hD [0, 1, 2, 3] [] rfl rfl (by decide) (by decide) hFc (fun r_11 u_11 H_11 locs hw hP hD hS => ?_)
      have h := hw
      have hP : va_P D vwCl [(a_fo, .inr (2, [.ref a_pi, .ref a_fol, .int fa, .int ff, .int fm])), (a_fol, .inl (cI, 17, .inl fl)), (a_pi, .inr (3, [.ref a_pix, .int pa, .int pd])), (a_pix, .inl (cI, 1024, .inl px))] H_11 := hP.sub [0, 1, 2, 3] rfl
      have hD : va_D A [(a_fo, .inr (2, [.ref a_pi, .ref a_fol, .int fa, .int ff, .int fm])), (a_fol, .inl (cI, 17, .inl fl)), (a_pi, .inr (3, [.ref a_pix, .int pa, .int pd])), (a_pix, .inl (cI, 1024, .inl px))] := hD.sub [0, 1, 2, 3] (by decide) rfl
      refine lv_iadd hx hb dX2_meanOfSides_24 ?_
      refine lv_iconst (v := 4) hx hb dX2_meanOfSides_25 (by decide) ?_
      refine lv_iadd hx hb dX2_meanOfSides_26 ?_
      refine lv_bipush (v := 8) hx hb dX2_meanOfSides_27 (by decide) ?_
      refine lv_idiv hx hb dX2_meanOfSides_29 (by decide) ?_
      exact hret (((r_10 + r_11) + 4) / 8) () _ _ _ _ dX2_meanOfSides_30 (vp_nar_int _) h hP hD hS
def wp_X2_lookAround (fa : Int32) (ff : Int32) (fm : Int32) (fl : (Nat → Int32)) (pa : Int32) (px : (Nat → Int32)) (v1 : Int32) (K : Int32 → Int32 → Int32 → (Nat → Int32) → Prop) : Prop := wp_X3_leftOf pa v1 (fun (r_1 : Int32) => wp_X3_topOf pa v1 (fun (r_2 : Int32) => jn1 (fun (t0_3 : Int32) => jz t0_3 ∧ jn1 (fun (t0_6 : Int32) => jz t0_6 ∧ jn1 (fun (fl_9 : (Nat → Int32)) => jn1 (fun (fl_10 : (Nat → Int32)) => jn1 (fun (fl_11 : (Nat → Int32)) => wp_X2_meanOfSides t0_3 t0_6 fl_11 (fun (r_12 : Int32) => K t0_3 t0_6 r_12 fl_11)) (fun J_11 => ((t0_3 = 0 → J_11 fl_10) ∧ (¬ t0_3 = 0 → ((t0_6 = 0 → J_11 fl_10) ∧ (¬ t0_6 = 0 → wp_X3_get px (r_1 - 1) (r_2 - 1) (fun (r_16 : Int32) => vp_in 7 17 ∧ J_11 (jup fl_10 7 r_16)))))))) (fun J_10 => ((t0_6 = 0 → J_10 fl_9) ∧ (¬ t0_6 = 0 → wp_X2_lookLeft fl_9 px (r_1 - 1) r_2 (fun (fl_20 : (Nat → Int32)) => J_10 fl_20))))) (fun J_9 => ((t0_3 = 0 → J_9 fl) ∧ (¬ t0_3 = 0 → wp_X2_lookAbove fl pa px r_1 (r_2 - 1) (fun (fl_22 : (Nat → Int32)) => J_9 fl_22))))) (fun J_6 => ((r_1 ≤ 0 → J_6 0) ∧ (¬ r_1 ≤ 0 → J_6 1)))) (fun J_3 => ((r_2 ≤ 0 → J_3 0) ∧ (¬ r_2 ≤ 0 → J_3 1)))))
abbrev jw_X2_lookAround : List Cond := .code yX2_lookAround cX2_lookAround 4 none :: jmAll
abbrev rmX2_lookAround : Room := { frames := 2, cells := 0, slots := 0, locals := 46 }
set_option maxHeartbeats 4000000 in
set_option maxRecDepth 100000 in
theorem c_X2_lookAround (l : Launch) (D : va_G) (cI cB : ClassId) (tt : Nat × Nat × Nat) (a_fo a_fol a_pi a_pix : Nat) (sz : Nat) (fa : Int32) (ff : Int32) (fm : Int32) (fl : (Nat → Int32)) (pa : Int32) (pd : Int32) (px : (Nat → Int32)) (v1 : Int32) {K : Int32 → Int32 → Int32 → (Nat → Int32) → Prop} (h : wp_X2_lookAround fa ff fm fl pa px v1 K) : Met l yX2_lookAround jw_X2_lookAround rmX2_lookAround (va_Pc [.ref a_fo, .int v1] (jm_Pre D cI cB tt (wd_fo_fol_pi_pix cI cB a_fo a_fol a_pi a_pix fa ff fm fl pa pd px) sz)) (va_Qv (fun (u : Int32 × Int32 × Int32 × (Nat → Int32)) => pr4 K u) (jm_Post D cI cB (wd_fo_fol_pi_pix cI cB a_fo a_fol a_pi a_pix fa ff fm fl pa pd px) sz (fun (u : Int32 × Int32 × Int32 × (Nat → Int32)) => wd_fo_fol_pi_pix cI cB a_fo a_fol a_pi a_pix u.1 u.2.1 u.2.2.1 u.2.2.2 pa pd px)) (va_A (wd_fo_fol_pi_pix cI cB a_fo a_fol a_pi a_pix fa ff fm fl pa pd px) sz)) 0 0 (va_A (wd_fo_fol_pi_pix cI cB a_fo a_fol a_pi a_pix fa ff fm fl pa pd px) sz) := by
  refine jm_metV (by decide +kernel) rfl rfl (Nat.le_of_ble_eq_true rfl) ?_
  intro p e s m args below meth c A Q ls C0 hP hD hl hret
  obtain ⟨hx, hb, hml, hr, hown, hts, hlocks, hA, hK, hE⟩ := C0
  have hS : va_S A s.heap s.heap [] := va_S.rf
  have hl : lv_has ls 4 [(0, .ref a_fo), (1, .int v1)] := hl
  unfold wp_X2_lookAround at h
  have hP : va_P D vwCl [(a_fo, .inr (2, [.ref a_pi, .ref a_fol, .int fa, .int ff, .int fm])), (a_fol, .inl (cI, 17, .inl fl)), (a_pi, .inr (3, [.ref a_pix, .int pa, .int pd])), (a_pix, .inl (cI, 1024, .inl px))] s.heap := hP
  have hD : va_D A [(a_fo, .inr (2, [.ref a_pi, .ref a_fol, .int fa, .int ff, .int fm])), (a_fol, .inl (cI, 17, .inl fl)), (a_pi, .inr (3, [.ref a_pix, .int pa, .int pd])), (a_pix, .inl (cI, 1024, .inl px))] := hD
  have iX2 : ∀ w ∈ wsX20, w ∈ jw_X2_lookAround := fun w h => List.mem_cons_of_mem _ (jm_iX2 w h)
  have lk11 := hts (.fieldLink RX2 11 "IntraMill$Foretelling" "line" "[I") (List.mem_cons_of_mem _ mw_107)
  have lk15 := hts (.fieldLink RX2 15 "IntraMill$Foretelling" "picture" "LIntraMill$Picture;") (List.mem_cons_of_mem _ mw_106)
  have lk28 := hts (.fieldLink RX2 28 "IntraMill$Foretelling" "above" "Z") (List.mem_cons_of_mem _ mw_108)
  have lk32 := hts (.fieldLink RX2 32 "IntraMill$Foretelling" "left" "Z") (List.mem_cons_of_mem _ mw_109)
  have lk50 := hts (.fieldLink RX2 50 "IntraMill$Foretelling" "mean" "I") (List.mem_cons_of_mem _ mw_110)
  refine lv_aload_n hx hb dX2_lookAround_0 rfl (lv_at hl 0 rfl) ?_
  refine va_get (D := D) (ci := 2) (v := .ref a_pi) (C := RX2) (T := TX2) (N := 5) hx hb hts iX2 hown hK hP 0 rfl rfl 0 (by decide) lk15 (fun _ h9 => h9) rfl dX2_lookAround_1 ?_
  refine lv_iload_n hx hb dX2_lookAround_4 rfl (lv_at hl 1 rfl) ?_
  have hPc := hP.sub (ws' := [(a_pi, .inr (3, [.ref a_pix, .int pa, .int pd])), (a_pix, .inl (cI, 1024, .inl px))]) [2, 3] rfl
  have hDc := hD.sub (ws' := [(a_pi, .inr (3, [.ref a_pix, .int pa, .int pd])), (a_pix, .inl (cI, 1024, .inl px))]) [2, 3] (by decide) rfl
  have hFc := va_free (wc := [(a_pi, .inr (3, [.ref a_pix, .int pa, .int pd])), (a_pix, .inl (cI, 1024, .inl px))]) hD hS hA [2, 3] rfl
  refine jm_calli (wr := [(a_fo, .inr (2, [.ref a_pi, .ref a_fol, .int fa, .int ff, .int fm])), (a_fol, .inl (cI, 17, .inl fl))]) (va_runV (As := [.int v1]) (rest := []) ⟨hx, hb, hml, hown, hts⟩ (c_X3_leftOf l D cI cB tt a_pi a_pix s.heap.size pa pd px v1 h) (cwV 1 hts (jm_gV mw_406 mw_407 mw_408 mw_56 mw_409) rfl rfl rfl (by decide +kernel) ⟨Nat.le_of_ble_eq_true rfl, Nat.le_of_ble_eq_true rfl⟩) ⟨jm_blind, va_recv hK hPc (ci := 3) (q0 := 0) rfl rfl, jm_pre hK hE hS hPc hDc hFc _⟩ rfl rfl hl.1 rfl (lv_room (Nat.le_of_ble_eq_true rfl)) dX2_lookAround_5 ⟨Nat.zero_le _, Nat.zero_le _⟩) hS hP hD [2, 3] [0, 1] rfl rfl (by decide) (by decide) hFc (fun r_1 u_1 H_1 locs hw hP hD hS => ?_)
  have h := hw
  have hP : va_P D vwCl [(a_fo, .inr (2, [.ref a_pi, .ref a_fol, .int fa, .int ff, .int fm])), (a_fol, .inl (cI, 17, .inl fl)), (a_pi, .inr (3, [.ref a_pix, .int pa, .int pd])), (a_pix, .inl (cI, 1024, .inl px))] H_1 := hP.sub [0, 1, 2, 3] rfl
  have hD : va_D A [(a_fo, .inr (2, [.ref a_pi, .ref a_fol, .int fa, .int ff, .int fm])), (a_fol, .inl (cI, 17, .inl fl)), (a_pi, .inr (3, [.ref a_pix, .int pa, .int pd])), (a_pix, .inl (cI, 1024, .inl px))] := hD.sub [0, 1, 2, 3] (by decide) rfl
  refine lv_istore_n (lv' := [(2, .int r_1), (0, .ref a_fo), (1, .int v1)]) hx hb dX2_lookAround_8 rfl hl (by decide) rfl (fun ls hl => ?_)
  refine lv_aload_n hx hb dX2_lookAround_9 rfl (lv_at hl 1 rfl) ?_
  refine va_get (D := D) (ci := 2) (v := .ref a_pi) (C := RX2) (T := TX2) (N := 5) hx hb hts iX2 hown hK hP 0 rfl rfl 0 (by decide) lk15 (fun _ h9 => h9) rfl dX2_lookAround_10 ?_
  refine lv_iload_n hx hb dX2_lookAround_13 rfl (lv_at hl 2 rfl) ?_
  have hPc := hP.sub (ws' := [(a_pi, .inr (3, [.ref a_pix, .int pa, .int pd])), (a_pix, .inl (cI, 1024, .inl px))]) [2, 3] rfl
  have hDc := hD.sub (ws' := [(a_pi, .inr (3, [.ref a_pix, .int pa, .int pd])), (a_pix, .inl (cI, 1024, .inl px))]) [2, 3] (by decide) rfl
  have hFc := va_free (wc := [(a_pi, .inr (3, [.ref a_pix, .int pa, .int pd])), (a_pix, .inl (cI, 1024, .inl px))]) hD hS hA [2, 3] rfl
  refine jm_calli (wr := [(a_fo, .inr (2, [.ref a_pi, .ref a_fol, .int fa, .int ff, .int fm])), (a_fol, .inl (cI, 17, .inl fl))]) (va_runV (As := [.int v1]) (rest := []) ⟨hx, hb, hml, hown, hts⟩ (c_X3_topOf l D cI cB tt a_pi a_pix H_1.size pa pd px v1 h) (cwV 1 hts (jm_gV mw_410 mw_411 mw_412 mw_56 mw_413) rfl rfl rfl (by decide +kernel) ⟨Nat.le_of_ble_eq_true rfl, Nat.le_of_ble_eq_true rfl⟩) ⟨jm_blind, va_recv hK hPc (ci := 3) (q0 := 0) rfl rfl, jm_pre hK hE hS hPc hDc hFc _⟩ rfl rfl hl.1 rfl (lv_room (Nat.le_of_ble_eq_true rfl)) dX2_lookAround_14 ⟨Nat.zero_le _, Nat.zero_le _⟩) hS hP hD [2, 3] [0, 1] rfl rfl (by decide) (by decide) hFc (fun r_2 u_2 H_2 locs hw hP hD hS => ?_)
  have h := hw
  have hP : va_P D vwCl [(a_fo, .inr (2, [.ref a_pi, .ref a_fol, .int fa, .int ff, .int fm])), (a_fol, .inl (cI, 17, .inl fl)), (a_pi, .inr (3, [.ref a_pix, .int pa, .int pd])), (a_pix, .inl (cI, 1024, .inl px))] H_2 := hP.sub [0, 1, 2, 3] rfl
  have hD : va_D A [(a_fo, .inr (2, [.ref a_pi, .ref a_fol, .int fa, .int ff, .int fm])), (a_fol, .inl (cI, 17, .inl fl)), (a_pi, .inr (3, [.ref a_pix, .int pa, .int pd])), (a_pix, .inl (cI, 1024, .inl px))] := hD.sub [0, 1, 2, 3] (by decide) rfl
  refine lv_istore_n (lv' := [(3, .int r_2), (2, .int r_1), (0, .ref a_fo), (1, .int v1)]) hx hb dX2_lookAround_17 rfl hl (by decide) rfl (fun ls hl => ?_)
  refine lv_aload_n hx hb dX2_lookAround_18 rfl (lv_at hl 2 rfl) ?_
  refine lv_iload_n hx hb dX2_lookAround_19 rfl (lv_at hl 0 rfl) ?_
  obtain ⟨J_3, hj_3, h⟩ := jn1_out h
  have hJ_3 : ∀ (t0_3 : Int32), ∀ (H : Heap) (locs : List Loc) (ls : Array Slot), J_3 t0_3 → va_P D vwCl [(a_fo, .inr (2, [.ref a_pi, .ref a_fol, .int fa, .int ff, .int fm])), (a_fol, .inl (cI, 17, .inl fl)), (a_pi, .inr (3, [.ref a_pix, .int pa, .int pd])), (a_pix, .inl (cI, 1024, .inl px))] H → va_D A [(a_fo, .inr (2, [.ref a_pi, .ref a_fol, .int fa, .int ff, .int fm])), (a_fol, .inl (cI, 17, .inl fl)), (a_pi, .inr (3, [.ref a_pix, .int pa, .int pd])), (a_pix, .inl (cI, 1024, .inl px))] → va_S A s.heap H locs → lv_has ls 4 [(0, .ref a_fo), (1, .int v1), (2, .int r_1), (3, .int r_2)] → W p l e rmX2_lookAround s m args below meth c H locs 0 0 Q (F0 m 28 ls [.int t0_3, .ref a_fo]) := by
    intro t0_3 H locs ls h hP hD hS hl
    have h := hj_3 t0_3 h
    obtain ⟨hz_4, h⟩ := h
    refine va_put (D := D) (ci := 2) (v := .int t0_3) (ty := .boolean) (C := RX2) (T := TX2) (N := 5) hx hb hts iX2 tyX2 tyX2_ok nmX2 hown hK hP hD hS 0 rfl rfl 2 (by decide) lk28 (fun _ h9 => h9) rfl (by decide +kernel) hz_4.1 hz_4.2 (Nat.le_of_ble_eq_true rfl) dX2_lookAround_28 (fun H_5 locs hP hD hS => ?_)
    have hP : va_P D vwCl [(a_fo, .inr (2, [.ref a_pi, .ref a_fol, .int t0_3, .int ff, .int fm])), (a_fol, .inl (cI, 17, .inl fl)), (a_pi, .inr (3, [.ref a_pix, .int pa, .int pd])), (a_pix, .inl (cI, 1024, .inl px))] H_5 := hP
    have hD : va_D A [(a_fo, .inr (2, [.ref a_pi, .ref a_fol, .int t0_3, .int ff, .int fm])), (a_fol, .inl (cI, 17, .inl fl)), (a_pi, .inr (3, [.ref a_pix, .int pa, .int pd])), (a_pix, .inl (cI, 1024, .inl px))] := hD
    refine lv_aload_n hx hb dX2_lookAround_31 rfl (lv_at hl 0 rfl) ?_
    refine lv_iload_n hx hb dX2_lookAround_32 rfl (lv_at hl 2 rfl) ?_
    obtain ⟨J_6, hj_6, h⟩ := jn1_out h
    have hJ_6 : ∀ (t0_6 : Int32), ∀ (H : Heap) (locs : List Loc) (ls : Array Slot), J_6 t0_6 → va_P D vwCl [(a_fo, .inr (2, [.ref a_pi, .ref a_fol, .int t0_3, .int ff, .int fm])), (a_fol, .inl (cI, 17, .inl fl)), (a_pi, .inr (3, [.ref a_pix, .int pa, .int pd])), (a_pix, .inl (cI, 1024, .inl px))] H → va_D A [(a_fo, .inr (2, [.ref a_pi, .ref a_fol, .int t0_3, .int ff, .int fm])), (a_fol, .inl (cI, 17, .inl fl)), (a_pi, .inr (3, [.ref a_pix, .int pa, .int pd])), (a_pix, .inl (cI, 1024, .inl px))] → va_S A s.heap H locs → lv_has ls 4 [(0, .ref a_fo), (1, .int v1), (2, .int r_1), (3, .int r_2)] → W p l e rmX2_lookAround s m args below meth c H locs 0 0 Q (F0 m 41 ls [.int t0_6, .ref a_fo]) := by
      intro t0_6 H locs ls h hP hD hS hl
      have h := hj_6 t0_6 h
      obtain ⟨hz_7, h⟩ := h
      refine va_put (D := D) (ci := 2) (v := .int t0_6) (ty := .boolean) (C := RX2) (T := TX2) (N := 5) hx hb hts iX2 tyX2 tyX2_ok nmX2 hown hK hP hD hS 0 rfl rfl 3 (by decide) lk32 (fun _ h9 => h9) rfl (by decide +kernel) hz_7.1 hz_7.2 (Nat.le_of_ble_eq_true rfl) dX2_lookAround_41 (fun H_8 locs hP hD hS => ?_)
      have hP : va_P D vwCl [(a_fo, .inr (2, [.ref a_pi, .ref a_fol, .int t0_3, .int t0_6, .int fm])), (a_fol, .inl (cI, 17, .inl fl)), (a_pi, .inr (3, [.ref a_pix, .int pa, .int pd])), (a_pix, .inl (cI, 1024, .inl px))] H_8 := hP
      have hD : va_D A [(a_fo, .inr (2, [.ref a_pi, .ref a_fol, .int t0_3, .int t0_6, .int fm])), (a_fol, .inl (cI, 17, .inl fl)), (a_pi, .inr (3, [.ref a_pix, .int pa, .int pd])), (a_pix, .inl (cI, 1024, .inl px))] := hD
      refine lv_aload_n hx hb dX2_lookAround_44 rfl (lv_at hl 0 rfl) ?_
      refine va_get (D := D) (ci := 2) (v := .int t0_3) (C := RX2) (T := TX2) (N := 5) hx hb hts iX2 hown hK hP 0 rfl rfl 2 (by decide) lk28 (fun _ h9 => h9) rfl dX2_lookAround_45 ?_
      obtain ⟨J_9, hj_9, h⟩ := jn1_out h
      have hJ_9 : ∀ (fl_9 : (Nat → Int32)), ∀ (H : Heap) (locs : List Loc) (ls : Array Slot), J_9 fl_9 → va_P D vwCl [(a_fo, .inr (2, [.ref a_pi, .ref a_fol, .int t0_3, .int t0_6, .int fm])), (a_fol, .inl (cI, 17, .inl fl_9)), (a_pi, .inr (3, [.ref a_pix, .int pa, .int pd])), (a_pix, .inl (cI, 1024, .inl px))] H → va_D A [(a_fo, .inr (2, [.ref a_pi, .ref a_fol, .int t0_3, .int t0_6, .int fm])), (a_fol, .inl (cI, 17, .inl fl_9)), (a_pi, .inr (3, [.ref a_pix, .int pa, .int pd])), (a_pix, .inl (cI, 1024, .inl px))] → va_S A s.heap H locs → lv_has ls 4 [(0, .ref a_fo), (1, .int v1), (2, .int r_1), (3, .int r_2)] → W p l e rmX2_lookAround s m args below meth c H locs 0 0 Q (F0 m 59 ls []) := by
        intro fl_9 H locs ls h hP hD hS hl
        have h := hj_9 fl_9 h
        refine lv_aload_n hx hb dX2_lookAround_59 rfl (lv_at hl 0 rfl) ?_
        refine va_get (D := D) (ci := 2) (v := .int t0_6) (C := RX2) (T := TX2) (N := 5) hx hb hts iX2 hown hK hP 0 rfl rfl 3 (by decide) lk32 (fun _ h9 => h9) rfl dX2_lookAround_60 ?_
        obtain ⟨J_10, hj_10, h⟩ := jn1_out h
        have hJ_10 : ∀ (fl_10 : (Nat → Int32)), ∀ (H : Heap) (locs : List Loc) (ls : Array Slot), J_10 fl_10 → va_P D vwCl [(a_fo, .inr (2, [.ref a_pi, .ref a_fol, .int t0_3, .int t0_6, .int fm])), (a_fol, .inl (cI, 17, .inl fl_10)), (a_pi, .inr (3, [.ref a_pix, .int pa, .int pd])), (a_pix, .inl (cI, 1024, .inl px))] H → va_D A [(a_fo, .inr (2, [.ref a_pi, .ref a_fol, .int t0_3, .int t0_6, .int fm])), (a_fol, .inl (cI, 17, .inl fl_10)), (a_pi, .inr (3, [.ref a_pix, .int pa, .int pd])), (a_pix, .inl (cI, 1024, .inl px))] → va_S A s.heap H locs → lv_has ls 4 [(0, .ref a_fo), (1, .int v1), (2, .int r_1), (3, .int r_2)] → W p l e rmX2_lookAround s m args below meth c H locs 0 0 Q (F0 m 74 ls []) := by
          intro fl_10 H locs ls h hP hD hS hl
          have h := hj_10 fl_10 h
          refine lv_aload_n hx hb dX2_lookAround_74 rfl (lv_at hl 0 rfl) ?_
          refine va_get (D := D) (ci := 2) (v := .int t0_3) (C := RX2) (T := TX2) (N := 5) hx hb hts iX2 hown hK hP 0 rfl rfl 2 (by decide) lk28 (fun _ h9 => h9) rfl dX2_lookAround_75 ?_
          obtain ⟨J_11, hj_11, h⟩ := jn1_out h
          have hJ_11 : ∀ (fl_11 : (Nat → Int32)), ∀ (H : Heap) (locs : List Loc) (ls : Array Slot), J_11 fl_11 → va_P D vwCl [(a_fo, .inr (2, [.ref a_pi, .ref a_fol, .int t0_3, .int t0_6, .int fm])), (a_fol, .inl (cI, 17, .inl fl_11)), (a_pi, .inr (3, [.ref a_pix, .int pa, .int pd])), (a_pix, .inl (cI, 1024, .inl px))] H → va_D A [(a_fo, .inr (2, [.ref a_pi, .ref a_fol, .int t0_3, .int t0_6, .int fm])), (a_fol, .inl (cI, 17, .inl fl_11)), (a_pi, .inr (3, [.ref a_pix, .int pa, .int pd])), (a_pix, .inl (cI, 1024, .inl px))] → va_S A s.heap H locs → lv_has ls 4 [(0, .ref a_fo), (1, .int v1), (2, .int r_1), (3, .int r_2)] → W p l e rmX2_lookAround s m args below meth c H locs 0 0 Q (F0 m 108 ls []) := by
            intro fl_11 H locs ls h hP hD hS hl
            have h := hj_11 fl_11 h
            refine lv_aload_n hx hb dX2_lookAround_108 rfl (lv_at hl 0 rfl) ?_
            refine lv_aload_n hx hb dX2_lookAround_109 rfl (lv_at hl 0 rfl) ?_
            have hPc := hP.sub (ws' := [(a_fo, .inr (2, [.ref a_pi, .ref a_fol, .int t0_3, .int t0_6, .int fm])), (a_fol, .inl (cI, 17, .inl fl_11)), (a_pi, .inr (3, [.ref a_pix, .int pa, .int pd])), (a_pix, .inl (cI, 1024, .inl px))]) [0, 1, 2, 3] rfl
            have hDc := hD.sub (ws' := [(a_fo, .inr (2, [.ref a_pi, .ref a_fol, .int t0_3, .int t0_6, .int fm])), (a_fol, .inl (cI, 17, .inl fl_11)), (a_pi, .inr (3, [.ref a_pix, .int pa, .int pd])), (a_pix, .inl (cI, 1024, .inl px))]) [0, 1, 2, 3] (by decide) rfl
            have hFc := va_free (wc := [(a_fo, .inr (2, [.ref a_pi, .ref a_fol, .int t0_3, .int t0_6, .int fm])), (a_fol, .inl (cI, 17, .inl fl_11)), (a_pi, .inr (3, [.ref a_pix, .int pa, .int pd])), (a_pix, .inl (cI, 1024, .inl px))]) hD hS hA [0, 1, 2, 3] rfl
            refine jm_calli (wr := []) (va_runV (As := []) (rest := [.ref a_fo]) ⟨hx, hb, hml, hown, hts⟩ (c_X2_meanOfSides l D cI cB tt a_fo a_fol a_pi a_pix H.size t0_3 t0_6 fm fl_11 pa pd px h) (cwV 0 hts (jm_gV mw_423 mw_425 mw_6 mw_57 mw_426) rfl rfl rfl (by decide +kernel) ⟨Nat.le_of_ble_eq_true rfl, Nat.le_of_ble_eq_true rfl⟩) ⟨jm_blind, va_recv hK hPc (ci := 2) (q0 := 0) rfl rfl, jm_pre hK hE hS hPc hDc hFc _⟩ rfl rfl hl.1 rfl (lv_room (Nat.le_of_ble_eq_true rfl)) dX2_lookAround_110 ⟨Nat.zero_le _, Nat.zero_le _⟩) hS hP hD [0, 1, 2, 3] [] rfl rfl (by decide) (by decide) hFc (fun r_12 u_12 H_12 locs hw hP hD hS => ?_)
            have h := hw
            have hP : va_P D vwCl [(a_fo, .inr (2, [.ref a_pi, .ref a_fol, .int t0_3, .int t0_6, .int fm])), (a_fol, .inl (cI, 17, .inl fl_11)), (a_pi, .inr (3, [.ref a_pix, .int pa, .int pd])), (a_pix, .inl (cI, 1024, .inl px))] H_12 := hP.sub [0, 1, 2, 3] rfl
            have hD : va_D A [(a_fo, .inr (2, [.ref a_pi, .ref a_fol, .int t0_3, .int t0_6, .int fm])), (a_fol, .inl (cI, 17, .inl fl_11)), (a_pi, .inr (3, [.ref a_pix, .int pa, .int pd])), (a_pix, .inl (cI, 1024, .inl px))] := hD.sub [0, 1, 2, 3] (by decide) rfl
            refine va_put (D := D) (ci := 2) (v := .int r_12) (ty := .int) (C := RX2) (T := TX2) (N := 5) hx hb hts iX2 tyX2 tyX2_ok nmX2 hown hK hP hD hS 0 rfl rfl 4 (by decide) lk50 (fun _ h9 => h9) rfl (by decide +kernel) rfl rfl (Nat.le_of_ble_eq_true rfl) dX2_lookAround_113 (fun H_13 locs hP hD hS => ?_)
            have hP : va_P D vwCl [(a_fo, .inr (2, [.ref a_pi, .ref a_fol, .int t0_3, .int t0_6, .int r_12])), (a_fol, .inl (cI, 17, .inl fl_11)), (a_pi, .inr (3, [.ref a_pix, .int pa, .int pd])), (a_pix, .inl (cI, 1024, .inl px))] H_13 := hP
            have hD : va_D A [(a_fo, .inr (2, [.ref a_pi, .ref a_fol, .int t0_3, .int t0_6, .int r_12])), (a_fol, .inl (cI, 17, .inl fl_11)), (a_pi, .inr (3, [.ref a_pix, .int pa, .int pd])), (a_pix, .inl (cI, 1024, .inl px))] := hD
            exact hret (t0_3, t0_6, r_12, fl_11) _ _ _ _ dX2_lookAround_116 h hP hD hS
          refine lv_if_eq (tgt := 108) hx hb dX2_lookAround_78 (by decide) (fun c_14 => ?_) (fun c_14 => ?_)
          · have h := h.1 c_14
            exact hJ_11 fl_10 H _ _ h hP hD hS (lv_sub hl [0, 1, 2, 3] rfl)
          · have h := h.2 c_14
            refine lv_aload_n hx hb dX2_lookAround_81 rfl (lv_at hl 0 rfl) ?_
            refine va_get (D := D) (ci := 2) (v := .int t0_6) (C := RX2) (T := TX2) (N := 5) hx hb hts iX2 hown hK hP 0 rfl rfl 3 (by decide) lk32 (fun _ h9 => h9) rfl dX2_lookAround_82 ?_
            refine lv_if_eq (tgt := 108) hx hb dX2_lookAround_85 (by decide) (fun c_15 => ?_) (fun c_15 => ?_)
            · have h := h.1 c_15
              exact hJ_11 fl_10 H _ _ h hP hD hS (lv_sub hl [0, 1, 2, 3] rfl)
            · have h := h.2 c_15
              refine lv_aload_n hx hb dX2_lookAround_88 rfl (lv_at hl 0 rfl) ?_
              refine va_get (D := D) (ci := 2) (v := .ref a_fol) (C := RX2) (T := TX2) (N := 5) hx hb hts iX2 hown hK hP 0 rfl rfl 1 (by decide) lk11 (fun _ h9 => h9) rfl dX2_lookAround_89 ?_
              refine lv_bipush (v := 7) hx hb dX2_lookAround_92 (by decide) ?_
              refine lv_aload_n hx hb dX2_lookAround_94 rfl (lv_at hl 0 rfl) ?_
              refine va_get (D := D) (ci := 2) (v := .ref a_pi) (C := RX2) (T := TX2) (N := 5) hx hb hts iX2 hown hK hP 0 rfl rfl 0 (by decide) lk15 (fun _ h9 => h9) rfl dX2_lookAround_95 ?_
              refine lv_iload_n hx hb dX2_lookAround_98 rfl (lv_at hl 2 rfl) ?_
              refine lv_iconst (v := 1) hx hb dX2_lookAround_99 (by decide) ?_
              refine lv_isub hx hb dX2_lookAround_100 ?_
              refine lv_iload_n hx hb dX2_lookAround_101 rfl (lv_at hl 3 rfl) ?_
              refine lv_iconst (v := 1) hx hb dX2_lookAround_102 (by decide) ?_
              refine lv_isub hx hb dX2_lookAround_103 ?_
              have hPc := hP.sub (ws' := [(a_pi, .inr (3, [.ref a_pix, .int pa, .int pd])), (a_pix, .inl (cI, 1024, .inl px))]) [2, 3] rfl
              have hDc := hD.sub (ws' := [(a_pi, .inr (3, [.ref a_pix, .int pa, .int pd])), (a_pix, .inl (cI, 1024, .inl px))]) [2, 3] (by decide) rfl
              have hFc := va_free (wc := [(a_pi, .inr (3, [.ref a_pix, .int pa, .int pd])), (a_pix, .inl (cI, 1024, .inl px))]) hD hS hA [2, 3] rfl
              refine jm_calli (wr := [(a_fo, .inr (2, [.ref a_pi, .ref a_fol, .int t0_3, .int t0_6, .int fm])), (a_fol, .inl (cI, 17, .inl fl_10))]) (va_runV (As := [.int (r_1 - 1), .int (r_2 - 1)]) (rest := [.int 7, .ref a_fol]) ⟨hx, hb, hml, hown, hts⟩ (c_X3_get l D cI cB tt a_pi a_pix H.size pa pd px (r_1 - 1) (r_2 - 1) h) (cwV 2 hts (jm_gV mw_418 mw_298 mw_299 mw_56 mw_300) rfl rfl rfl (by decide +kernel) ⟨Nat.le_of_ble_eq_true rfl, Nat.le_of_ble_eq_true rfl⟩) ⟨jm_blind, va_recv hK hPc (ci := 3) (q0 := 0) rfl rfl, jm_pre hK hE hS hPc hDc hFc _⟩ rfl rfl hl.1 rfl (lv_room (Nat.le_of_ble_eq_true rfl)) dX2_lookAround_104 ⟨Nat.zero_le _, Nat.zero_le _⟩) hS hP hD [2, 3] [0, 1] rfl rfl (by decide) (by decide) hFc (fun r_16 u_16 H_16 locs hw hP hD hS => ?_)
              have h := hw
              have hP : va_P D vwCl [(a_fo, .inr (2, [.ref a_pi, .ref a_fol, .int t0_3, .int t0_6, .int fm])), (a_fol, .inl (cI, 17, .inl fl_10)), (a_pi, .inr (3, [.ref a_pix, .int pa, .int pd])), (a_pix, .inl (cI, 1024, .inl px))] H_16 := hP.sub [0, 1, 2, 3] rfl
              have hD : va_D A [(a_fo, .inr (2, [.ref a_pi, .ref a_fol, .int t0_3, .int t0_6, .int fm])), (a_fol, .inl (cI, 17, .inl fl_10)), (a_pi, .inr (3, [.ref a_pix, .int pa, .int pd])), (a_pix, .inl (cI, 1024, .inl px))] := hD.sub [0, 1, 2, 3] (by decide) rfl
              obtain ⟨hi_17, h⟩ := h
              refine va_iast hx hb hK hP hD hS 1 0 rfl rfl hi_17 dX2_lookAround_107 (fun H_18 locs hP hD hS => ?_)
              have hP : va_P D vwCl [(a_fo, .inr (2, [.ref a_pi, .ref a_fol, .int t0_3, .int t0_6, .int fm])), (a_fol, .inl (cI, 17, .inl (jup fl_10 7 r_16))), (a_pi, .inr (3, [.ref a_pix, .int pa, .int pd])), (a_pix, .inl (cI, 1024, .inl px))] H_18 := hP
              have hD : va_D A [(a_fo, .inr (2, [.ref a_pi, .ref a_fol, .int t0_3, .int t0_6, .int fm])), (a_fol, .inl (cI, 17, .inl (jup fl_10 7 r_16))), (a_pi, .inr (3, [.ref a_pix, .int pa, .int pd])), (a_pix, .inl (cI, 1024, .inl px))] := hD
              exact hJ_11 (jup fl_10 7 r_16) H_18 _ _ h hP hD hS (lv_sub hl [0, 1, 2, 3] rfl)
        refine lv_if_eq (tgt := 74) hx hb dX2_lookAround_63 (by decide) (fun c_19 => ?_) (fun c_19 => ?_)
        · have h := h.1 c_19
          exact hJ_10 fl_9 H _ _ h hP hD hS (lv_sub hl [0, 1, 2, 3] rfl)
        · have h := h.2 c_19
          refine lv_aload_n hx hb dX2_lookAround_66 rfl (lv_at hl 0 rfl) ?_
          refine lv_iload_n hx hb dX2_lookAround_67 rfl (lv_at hl 2 rfl) ?_
          refine lv_iconst (v := 1) hx hb dX2_lookAround_68 (by decide) ?_
          refine lv_isub hx hb dX2_lookAround_69 ?_
          refine lv_iload_n hx hb dX2_lookAround_70 rfl (lv_at hl 3 rfl) ?_
          have hPc := hP.sub (ws' := [(a_fo, .inr (2, [.ref a_pi, .ref a_fol, .int t0_3, .int t0_6, .int fm])), (a_fol, .inl (cI, 17, .inl fl_9)), (a_pi, .inr (3, [.ref a_pix, .int pa, .int pd])), (a_pix, .inl (cI, 1024, .inl px))]) [0, 1, 2, 3] rfl
          have hDc := hD.sub (ws' := [(a_fo, .inr (2, [.ref a_pi, .ref a_fol, .int t0_3, .int t0_6, .int fm])), (a_fol, .inl (cI, 17, .inl fl_9)), (a_pi, .inr (3, [.ref a_pix, .int pa, .int pd])), (a_pix, .inl (cI, 1024, .inl px))]) [0, 1, 2, 3] (by decide) rfl
          have hFc := va_free (wc := [(a_fo, .inr (2, [.ref a_pi, .ref a_fol, .int t0_3, .int t0_6, .int fm])), (a_fol, .inl (cI, 17, .inl fl_9)), (a_pi, .inr (3, [.ref a_pix, .int pa, .int pd])), (a_pix, .inl (cI, 1024, .inl px))]) hD hS hA [0, 1, 2, 3] rfl
          refine jm_callv (wr := []) (va_runV (As := [.int (r_1 - 1), .int r_2]) (rest := []) ⟨hx, hb, hml, hown, hts⟩ (c_X2_lookLeft l D cI cB tt a_fo a_fol a_pi a_pix H.size t0_3 t0_6 fm fl_9 pa pd px (r_1 - 1) r_2 h) (cwV 2 hts (jm_gV mw_419 mw_421 mw_5 mw_57 mw_422) rfl rfl rfl (by decide +kernel) ⟨Nat.le_of_ble_eq_true rfl, Nat.le_of_ble_eq_true rfl⟩) ⟨jm_blind, va_recv hK hPc (ci := 2) (q0 := 0) rfl rfl, jm_pre hK hE hS hPc hDc hFc _⟩ rfl rfl hl.1 rfl (lv_room (Nat.le_of_ble_eq_true rfl)) dX2_lookAround_71 ⟨Nat.zero_le _, Nat.zero_le _⟩) hS hP hD [0, 1, 2, 3] [] rfl rfl (by decide) (by decide) hFc (fun u_20 H_20 locs hw hP hD hS => ?_)
          obtain ⟨fl_20, rfl⟩ : ∃ z, z = u_20 := ⟨_, rfl⟩
          have h := hw
          have hP : va_P D vwCl [(a_fo, .inr (2, [.ref a_pi, .ref a_fol, .int t0_3, .int t0_6, .int fm])), (a_fol, .inl (cI, 17, .inl fl_20)), (a_pi, .inr (3, [.ref a_pix, .int pa, .int pd])), (a_pix, .inl (cI, 1024, .inl px))] H_20 := hP.sub [0, 1, 2, 3] rfl
          have hD : va_D A [(a_fo, .inr (2, [.ref a_pi, .ref a_fol, .int t0_3, .int t0_6, .int fm])), (a_fol, .inl (cI, 17, .inl fl_20)), (a_pi, .inr (3, [.ref a_pix, .int pa, .int pd])), (a_pix, .inl (cI, 1024, .inl px))] := hD.sub [0, 1, 2, 3] (by decide) rfl
          exact hJ_10 fl_20 H_20 _ _ h hP hD hS (lv_sub hl [0, 1, 2, 3] rfl)
      refine lv_if_eq (tgt := 59) hx hb dX2_lookAround_48 (by decide) (fun c_21 => ?_) (fun c_21 => ?_)
      · have h := h.1 c_21
        exact hJ_9 fl H_8 _ _ h hP hD hS (lv_sub hl [0, 1, 2, 3] rfl)
      · have h := h.2 c_21
        refine lv_aload_n hx hb dX2_lookAround_51 rfl (lv_at hl 0 rfl) ?_
        refine lv_iload_n hx hb dX2_lookAround_52 rfl (lv_at hl 2 rfl) ?_
        refine lv_iload_n hx hb dX2_lookAround_53 rfl (lv_at hl 3 rfl) ?_
        refine lv_iconst (v := 1) hx hb dX2_lookAround_54 (by decide) ?_
        refine lv_isub hx hb dX2_lookAround_55 ?_
        have hPc := hP.sub (ws' := [(a_fo, .inr (2, [.ref a_pi, .ref a_fol, .int t0_3, .int t0_6, .int fm])), (a_fol, .inl (cI, 17, .inl fl)), (a_pi, .inr (3, [.ref a_pix, .int pa, .int pd])), (a_pix, .inl (cI, 1024, .inl px))]) [0, 1, 2, 3] rfl
        have hDc := hD.sub (ws' := [(a_fo, .inr (2, [.ref a_pi, .ref a_fol, .int t0_3, .int t0_6, .int fm])), (a_fol, .inl (cI, 17, .inl fl)), (a_pi, .inr (3, [.ref a_pix, .int pa, .int pd])), (a_pix, .inl (cI, 1024, .inl px))]) [0, 1, 2, 3] (by decide) rfl
        have hFc := va_free (wc := [(a_fo, .inr (2, [.ref a_pi, .ref a_fol, .int t0_3, .int t0_6, .int fm])), (a_fol, .inl (cI, 17, .inl fl)), (a_pi, .inr (3, [.ref a_pix, .int pa, .int pd])), (a_pix, .inl (cI, 1024, .inl px))]) hD hS hA [0, 1, 2, 3] rfl
        refine jm_callv (wr := []) (va_runV (As := [.int r_1, .int (r_2 - 1)]) (rest := []) ⟨hx, hb, hml, hown, hts⟩ (c_X2_lookAbove l D cI cB tt a_fo a_fol a_pi a_pix H_8.size t0_3 t0_6 fm fl pa pd px r_1 (r_2 - 1) h) (cwV 2 hts (jm_gV mw_414 mw_416 mw_4 mw_57 mw_417) rfl rfl rfl (by decide +kernel) ⟨Nat.le_of_ble_eq_true rfl, Nat.le_of_ble_eq_true rfl⟩) ⟨jm_blind, va_recv hK hPc (ci := 2) (q0 := 0) rfl rfl, jm_pre hK hE hS hPc hDc hFc _⟩ rfl rfl hl.1 rfl (lv_room (Nat.le_of_ble_eq_true rfl)) dX2_lookAround_56 ⟨Nat.zero_le _, Nat.zero_le _⟩) hS hP hD [0, 1, 2, 3] [] rfl rfl (by decide) (by decide) hFc (fun u_22 H_22 locs hw hP hD hS => ?_)
        obtain ⟨fl_22, rfl⟩ : ∃ z, z = u_22 := ⟨_, rfl⟩
        have h := hw
        have hP : va_P D vwCl [(a_fo, .inr (2, [.ref a_pi, .ref a_fol, .int t0_3, .int t0_6, .int fm])), (a_fol, .inl (cI, 17, .inl fl_22)), (a_pi, .inr (3, [.ref a_pix, .int pa, .int pd])), (a_pix, .inl (cI, 1024, .inl px))] H_22 := hP.sub [0, 1, 2, 3] rfl
        have hD : va_D A [(a_fo, .inr (2, [.ref a_pi, .ref a_fol, .int t0_3, .int t0_6, .int fm])), (a_fol, .inl (cI, 17, .inl fl_22)), (a_pi, .inr (3, [.ref a_pix, .int pa, .int pd])), (a_pix, .inl (cI, 1024, .inl px))] := hD.sub [0, 1, 2, 3] (by decide) rfl
        exact hJ_9 fl_22 H_22 _ _ h hP hD hS (lv_sub hl [0, 1, 2, 3] rfl)
    refine lv_if_le (tgt := 40) hx hb dX2_lookAround_33 (by decide) (fun c_23 => ?_) (fun c_23 => ?_)
    · have h := h.1 c_23
      refine lv_iconst (v := 0) hx hb dX2_lookAround_40 (by decide) ?_
      exact hJ_6 0 H_5 _ _ h hP hD hS (lv_sub hl [0, 1, 2, 3] rfl)
    · have h := h.2 c_23
      refine lv_iconst (v := 1) hx hb dX2_lookAround_36 (by decide) ?_
      refine lv_goto (tgt := 41) hx hb dX2_lookAround_37 (by decide) ?_
      exact hJ_6 1 H_5 _ _ h hP hD hS (lv_sub hl [0, 1, 2, 3] rfl)
  refine lv_if_le (tgt := 27) hx hb dX2_lookAround_20 (by decide) (fun c_24 => ?_) (fun c_24 => ?_)
  · have h := h.1 c_24
    refine lv_iconst (v := 0) hx hb dX2_lookAround_27 (by decide) ?_
    exact hJ_3 0 H_2 _ _ h hP hD hS (lv_sub hl [2, 3, 1, 0] rfl)
  · have h := h.2 c_24
    refine lv_iconst (v := 1) hx hb dX2_lookAround_23 (by decide) ?_
    refine lv_goto (tgt := 28) hx hb dX2_lookAround_24 (by decide) ?_
    exact hJ_3 1 H_2 _ _ h hP hD hS (lv_sub hl [2, 3, 1, 0] rfl)
def wp_X2_mayUse (fa : Int32) (ff : Int32) (v1 : Int32) (K : Int32 → Prop) : Prop := wp_X9_hasNeeded v1 fa ff (fun (r_1 : Int32) => jz r_1 ∧ K r_1)
abbrev jw_X2_mayUse : List Cond := .code yX2_mayUse cX2_mayUse 2 (some .boolean) :: jmAll
abbrev rmX2_mayUse : Room := { frames := 1, cells := 0, slots := 0, locals := 22 }
set_option maxHeartbeats 4000000 in
set_option maxRecDepth 100000 in
theorem c_X2_mayUse (l : Launch) (D : va_G) (cI cB : ClassId) (tt : Nat × Nat × Nat) (a_fo a_fol a_pi a_pix : Nat) (sz : Nat) (fa : Int32) (ff : Int32) (fm : Int32) (fl : (Nat → Int32)) (pa : Int32) (pd : Int32) (px : (Nat → Int32)) (v1 : Int32) {K : Int32 → Prop} (h : wp_X2_mayUse fa ff v1 K) : Met l yX2_mayUse jw_X2_mayUse rmX2_mayUse (va_Pc [.ref a_fo, .int v1] (jm_Pre D cI cB tt (wd_fo_fol_pi_pix cI cB a_fo a_fol a_pi a_pix fa ff fm fl pa pd px) sz)) (va_Qi (fun (r : Int32) (u : Unit) => K r) (jm_Post D cI cB (wd_fo_fol_pi_pix cI cB a_fo a_fol a_pi a_pix fa ff fm fl pa pd px) sz (fun (u : Unit) => wd_fo_fol_pi_pix cI cB a_fo a_fol a_pi a_pix fa ff fm fl pa pd px)) (va_A (wd_fo_fol_pi_pix cI cB a_fo a_fol a_pi a_pix fa ff fm fl pa pd px) sz)) 0 0 (va_A (wd_fo_fol_pi_pix cI cB a_fo a_fol a_pi a_pix fa ff fm fl pa pd px) sz) := by
  refine jm_metI (by decide +kernel) rfl rfl (Nat.le_of_ble_eq_true rfl) ?_
  intro p e s m args below meth c A Q ls C0 hP hD hl hret
  obtain ⟨hx, hb, hml, hr, hown, hts, hlocks, hA, hK, hE⟩ := C0
  have hS : va_S A s.heap s.heap [] := va_S.rf
  have hl : lv_has ls 2 [(0, .ref a_fo), (1, .int v1)] := hl
  unfold wp_X2_mayUse at h
  have hP : va_P D vwCl [(a_fo, .inr (2, [.ref a_pi, .ref a_fol, .int fa, .int ff, .int fm])), (a_fol, .inl (cI, 17, .inl fl)), (a_pi, .inr (3, [.ref a_pix, .int pa, .int pd])), (a_pix, .inl (cI, 1024, .inl px))] s.heap := hP
  have hD : va_D A [(a_fo, .inr (2, [.ref a_pi, .ref a_fol, .int fa, .int ff, .int fm])), (a_fol, .inl (cI, 17, .inl fl)), (a_pi, .inr (3, [.ref a_pix, .int pa, .int pd])), (a_pix, .inl (cI, 1024, .inl px))] := hD
  have iX2 : ∀ w ∈ wsX20, w ∈ jw_X2_mayUse := fun w h => List.mem_cons_of_mem _ (jm_iX2 w h)
  have lk28 := hts (.fieldLink RX2 28 "IntraMill$Foretelling" "above" "Z") (List.mem_cons_of_mem _ mw_108)
  have lk32 := hts (.fieldLink RX2 32 "IntraMill$Foretelling" "left" "Z") (List.mem_cons_of_mem _ mw_109)
  refine lv_iload_n hx hb dX2_mayUse_0 rfl (lv_at hl 1 rfl) ?_
  refine lv_aload_n hx hb dX2_mayUse_1 rfl (lv_at hl 0 rfl) ?_
  refine va_get (D := D) (ci := 2) (v := .int fa) (C := RX2) (T := TX2) (N := 5) hx hb hts iX2 hown hK hP 0 rfl rfl 2 (by decide) lk28 (fun _ h9 => h9) rfl dX2_mayUse_2 ?_
  refine lv_aload_n hx hb dX2_mayUse_5 rfl (lv_at hl 0 rfl) ?_
  refine va_get (D := D) (ci := 2) (v := .int ff) (C := RX2) (T := TX2) (N := 5) hx hb hts iX2 hown hK hP 0 rfl rfl 3 (by decide) lk32 (fun _ h9 => h9) rfl dX2_mayUse_6 ?_
  have hPc := hP.sub (ws' := []) [] rfl
  have hDc := hD.sub (ws' := []) [] (by decide) rfl
  have hFc := va_free (wc := []) hD hS hA [] rfl
  refine jm_calli (wr := [(a_fo, .inr (2, [.ref a_pi, .ref a_fol, .int fa, .int ff, .int fm])), (a_fol, .inl (cI, 17, .inl fl)), (a_pi, .inr (3, [.ref a_pix, .int pa, .int pd])), (a_pix, .inl (cI, 1024, .inl px))]) (va_runSN (As := [.int v1, .int fa, .int ff]) (rest := []) ⟨hx, hb, hml, hown, hts⟩ (c_X9_hasNeeded l D cI cB tt s.heap.size v1 fa ff h) ⟨va_cnB 3 hts (jm_gN mw_370) rfl rfl rfl (hE.2.1 ("IntraMill$Foretelling", 60, yX9_hasNeeded) (List.mem_of_getElem? (i := 5) rfl)) (hts (.initialized RX9) (List.mem_cons_of_mem _ mw_55)) (by decide +kernel) ⟨Nat.le_of_ble_eq_true rfl, Nat.le_of_ble_eq_true rfl⟩, hts (.static yX9_hasNeeded) (List.mem_cons_of_mem _ mw_369), trivial⟩ ⟨jm_blind, jm_pre hK hE hS hPc hDc hFc _⟩ rfl rfl hl.1 rfl (lv_room (Nat.le_of_ble_eq_true rfl)) dX2_mayUse_9 ⟨Nat.zero_le _, Nat.zero_le _⟩) hS hP hD [] [0, 1, 2, 3] rfl rfl (by decide) (by decide) hFc (fun r_1 u_1 H_1 locs hw hP hD hS => ?_)
  have h := hw
  have hP : va_P D vwCl [(a_fo, .inr (2, [.ref a_pi, .ref a_fol, .int fa, .int ff, .int fm])), (a_fol, .inl (cI, 17, .inl fl)), (a_pi, .inr (3, [.ref a_pix, .int pa, .int pd])), (a_pix, .inl (cI, 1024, .inl px))] H_1 := hP.sub [0, 1, 2, 3] rfl
  have hD : va_D A [(a_fo, .inr (2, [.ref a_pi, .ref a_fol, .int fa, .int ff, .int fm])), (a_fol, .inl (cI, 17, .inl fl)), (a_pi, .inr (3, [.ref a_pix, .int pa, .int pd])), (a_pix, .inl (cI, 1024, .inl px))] := hD.sub [0, 1, 2, 3] (by decide) rfl
  obtain ⟨hz_2, h⟩ := h
  exact hret r_1 () _ _ _ _ dX2_mayUse_12 hz_2.1 h hP hD hS
def wp_X2_three (fl : (Nat → Int32)) (v1 : Int32) (K : Int32 → Prop) : Prop := ∀ x2_1 : Int32, x2_1 = 7 + v1 → vp_in (x2_1 - 1) 17 ∧ vp_in x2_1 17 ∧ vp_in (x2_1 + 1) 17 ∧ K (((((jat fl (x2_1 - 1)) + (2 * (jat fl x2_1))) + (jat fl (x2_1 + 1))) + 2) / 4)
abbrev jw_X2_three : List Cond := .code yX2_three cX2_three 3 (some .int) :: jmAll
abbrev rmX2_three : Room := { frames := 0, cells := 0, slots := 0, locals := 0 }
set_option maxHeartbeats 4000000 in
set_option maxRecDepth 100000 in
theorem c_X2_three (l : Launch) (D : va_G) (cI cB : ClassId) (tt : Nat × Nat × Nat) (a_fo a_fol a_pi a_pix : Nat) (sz : Nat) (fa : Int32) (ff : Int32) (fm : Int32) (fl : (Nat → Int32)) (pa : Int32) (pd : Int32) (px : (Nat → Int32)) (v1 : Int32) {K : Int32 → Prop} (h : wp_X2_three fl v1 K) : Met l yX2_three jw_X2_three rmX2_three (va_Pc [.ref a_fo, .int v1] (jm_Pre D cI cB tt (wd_fo_fol_pi_pix cI cB a_fo a_fol a_pi a_pix fa ff fm fl pa pd px) sz)) (va_Qi (fun (r : Int32) (u : Unit) => K r) (jm_Post D cI cB (wd_fo_fol_pi_pix cI cB a_fo a_fol a_pi a_pix fa ff fm fl pa pd px) sz (fun (u : Unit) => wd_fo_fol_pi_pix cI cB a_fo a_fol a_pi a_pix fa ff fm fl pa pd px)) (va_A (wd_fo_fol_pi_pix cI cB a_fo a_fol a_pi a_pix fa ff fm fl pa pd px) sz)) 0 0 (va_A (wd_fo_fol_pi_pix cI cB a_fo a_fol a_pi a_pix fa ff fm fl pa pd px) sz) := by
  refine jm_metI (by decide +kernel) rfl rfl (Nat.le_of_ble_eq_true rfl) ?_
  intro p e s m args below meth c A Q ls C0 hP hD hl hret
  obtain ⟨hx, hb, hml, hr, hown, hts, hlocks, hA, hK, hE⟩ := C0
  have hS : va_S A s.heap s.heap [] := va_S.rf
  have hl : lv_has ls 3 [(0, .ref a_fo), (1, .int v1)] := hl
  unfold wp_X2_three at h
  have hP : va_P D vwCl [(a_fo, .inr (2, [.ref a_pi, .ref a_fol, .int fa, .int ff, .int fm])), (a_fol, .inl (cI, 17, .inl fl)), (a_pi, .inr (3, [.ref a_pix, .int pa, .int pd])), (a_pix, .inl (cI, 1024, .inl px))] s.heap := hP
  have hD : va_D A [(a_fo, .inr (2, [.ref a_pi, .ref a_fol, .int fa, .int ff, .int fm])), (a_fol, .inl (cI, 17, .inl fl)), (a_pi, .inr (3, [.ref a_pix, .int pa, .int pd])), (a_pix, .inl (cI, 1024, .inl px))] := hD
  have iX2 : ∀ w ∈ wsX20, w ∈ jw_X2_three := fun w h => List.mem_cons_of_mem _ (jm_iX2 w h)
  have lk11 := hts (.fieldLink RX2 11 "IntraMill$Foretelling" "line" "[I") (List.mem_cons_of_mem _ mw_107)
  refine lv_bipush (v := 7) hx hb dX2_three_0 (by decide) ?_
  refine lv_iload_n hx hb dX2_three_2 rfl (lv_at hl 1 rfl) ?_
  refine lv_iadd hx hb dX2_three_3 ?_
  refine lv_topi (fun x2_1 ex2_1 => ?_)
  have h := h x2_1 ex2_1
  refine lv_istore_n (lv' := [(2, .int x2_1), (0, .ref a_fo), (1, .int v1)]) hx hb dX2_three_4 rfl hl (by decide) rfl (fun ls hl => ?_)
  refine lv_aload_n hx hb dX2_three_5 rfl (lv_at hl 1 rfl) ?_
  refine va_get (D := D) (ci := 2) (v := .ref a_fol) (C := RX2) (T := TX2) (N := 5) hx hb hts iX2 hown hK hP 0 rfl rfl 1 (by decide) lk11 (fun _ h9 => h9) rfl dX2_three_6 ?_
  refine lv_iload_n hx hb dX2_three_9 rfl (lv_at hl 0 rfl) ?_
  refine lv_iconst (v := 1) hx hb dX2_three_10 (by decide) ?_
  refine lv_isub hx hb dX2_three_11 ?_
  obtain ⟨hi_2, h⟩ := h
  refine va_iald hx hb hK hP 1 0 rfl rfl hi_2 dX2_three_12 ?_
  refine lv_iconst (v := 2) hx hb dX2_three_13 (by decide) ?_
  refine lv_aload_n hx hb dX2_three_14 rfl (lv_at hl 1 rfl) ?_
  refine va_get (D := D) (ci := 2) (v := .ref a_fol) (C := RX2) (T := TX2) (N := 5) hx hb hts iX2 hown hK hP 0 rfl rfl 1 (by decide) lk11 (fun _ h9 => h9) rfl dX2_three_15 ?_
  refine lv_iload_n hx hb dX2_three_18 rfl (lv_at hl 0 rfl) ?_
  obtain ⟨hi_3, h⟩ := h
  refine va_iald hx hb hK hP 1 0 rfl rfl hi_3 dX2_three_19 ?_
  refine lv_imul hx hb dX2_three_20 ?_
  refine lv_iadd hx hb dX2_three_21 ?_
  refine lv_aload_n hx hb dX2_three_22 rfl (lv_at hl 1 rfl) ?_
  refine va_get (D := D) (ci := 2) (v := .ref a_fol) (C := RX2) (T := TX2) (N := 5) hx hb hts iX2 hown hK hP 0 rfl rfl 1 (by decide) lk11 (fun _ h9 => h9) rfl dX2_three_23 ?_
  refine lv_iload_n hx hb dX2_three_26 rfl (lv_at hl 0 rfl) ?_
  refine lv_iconst (v := 1) hx hb dX2_three_27 (by decide) ?_
  refine lv_iadd hx hb dX2_three_28 ?_
  obtain ⟨hi_4, h⟩ := h
  refine va_iald hx hb hK hP 1 0 rfl rfl hi_4 dX2_three_29 ?_
  refine lv_iadd hx hb dX2_three_30 ?_
  refine lv_iconst (v := 2) hx hb dX2_three_31 (by decide) ?_
  refine lv_iadd hx hb dX2_three_32 ?_
  refine lv_iconst (v := 4) hx hb dX2_three_33 (by decide) ?_
  refine lv_idiv hx hb dX2_three_34 (by decide) ?_
  exact hret (((((jat fl (x2_1 - 1)) + (2 * (jat fl x2_1))) + (jat fl (x2_1 + 1))) + 2) / 4) () _ _ _ _ dX2_three_35 (vp_nar_int _) h hP hD hS
def wp_X2_two (fl : (Nat → Int32)) (v1 v2 : Int32) (K : Int32 → Prop) : Prop := vp_in (7 + v1) 17 ∧ vp_in (7 + v2) 17 ∧ K ((((jat fl (7 + v1)) + (jat fl (7 + v2))) + 1) / 2)
abbrev jw_X2_two : List Cond := .code yX2_two cX2_two 3 (some .int) :: jmAll
abbrev rmX2_two : Room := { frames := 0, cells := 0, slots := 0, locals := 0 }
set_option maxHeartbeats 4000000 in
set_option maxRecDepth 100000 in
theorem c_X2_two (l : Launch) (D : va_G) (cI cB : ClassId) (tt : Nat × Nat × Nat) (a_fo a_fol a_pi a_pix : Nat) (sz : Nat) (fa : Int32) (ff : Int32) (fm : Int32) (fl : (Nat → Int32)) (pa : Int32) (pd : Int32) (px : (Nat → Int32)) (v1 v2 : Int32) {K : Int32 → Prop} (h : wp_X2_two fl v1 v2 K) : Met l yX2_two jw_X2_two rmX2_two (va_Pc [.ref a_fo, .int v1, .int v2] (jm_Pre D cI cB tt (wd_fo_fol_pi_pix cI cB a_fo a_fol a_pi a_pix fa ff fm fl pa pd px) sz)) (va_Qi (fun (r : Int32) (u : Unit) => K r) (jm_Post D cI cB (wd_fo_fol_pi_pix cI cB a_fo a_fol a_pi a_pix fa ff fm fl pa pd px) sz (fun (u : Unit) => wd_fo_fol_pi_pix cI cB a_fo a_fol a_pi a_pix fa ff fm fl pa pd px)) (va_A (wd_fo_fol_pi_pix cI cB a_fo a_fol a_pi a_pix fa ff fm fl pa pd px) sz)) 0 0 (va_A (wd_fo_fol_pi_pix cI cB a_fo a_fol a_pi a_pix fa ff fm fl pa pd px) sz) := by
  refine jm_metI (by decide +kernel) rfl rfl (Nat.le_of_ble_eq_true rfl) ?_
  intro p e s m args below meth c A Q ls C0 hP hD hl hret
  obtain ⟨hx, hb, hml, hr, hown, hts, hlocks, hA, hK, hE⟩ := C0
  have hS : va_S A s.heap s.heap [] := va_S.rf
  have hl : lv_has ls 3 [(0, .ref a_fo), (1, .int v1), (2, .int v2)] := hl
  unfold wp_X2_two at h
  have hP : va_P D vwCl [(a_fo, .inr (2, [.ref a_pi, .ref a_fol, .int fa, .int ff, .int fm])), (a_fol, .inl (cI, 17, .inl fl)), (a_pi, .inr (3, [.ref a_pix, .int pa, .int pd])), (a_pix, .inl (cI, 1024, .inl px))] s.heap := hP
  have hD : va_D A [(a_fo, .inr (2, [.ref a_pi, .ref a_fol, .int fa, .int ff, .int fm])), (a_fol, .inl (cI, 17, .inl fl)), (a_pi, .inr (3, [.ref a_pix, .int pa, .int pd])), (a_pix, .inl (cI, 1024, .inl px))] := hD
  have iX2 : ∀ w ∈ wsX20, w ∈ jw_X2_two := fun w h => List.mem_cons_of_mem _ (jm_iX2 w h)
  have lk11 := hts (.fieldLink RX2 11 "IntraMill$Foretelling" "line" "[I") (List.mem_cons_of_mem _ mw_107)
  refine lv_aload_n hx hb dX2_two_0 rfl (lv_at hl 0 rfl) ?_
  refine va_get (D := D) (ci := 2) (v := .ref a_fol) (C := RX2) (T := TX2) (N := 5) hx hb hts iX2 hown hK hP 0 rfl rfl 1 (by decide) lk11 (fun _ h9 => h9) rfl dX2_two_1 ?_
  refine lv_bipush (v := 7) hx hb dX2_two_4 (by decide) ?_
  refine lv_iload_n hx hb dX2_two_6 rfl (lv_at hl 1 rfl) ?_
  refine lv_iadd hx hb dX2_two_7 ?_
  obtain ⟨hi_1, h⟩ := h
  refine va_iald hx hb hK hP 1 0 rfl rfl hi_1 dX2_two_8 ?_
  refine lv_aload_n hx hb dX2_two_9 rfl (lv_at hl 0 rfl) ?_
  refine va_get (D := D) (ci := 2) (v := .ref a_fol) (C := RX2) (T := TX2) (N := 5) hx hb hts iX2 hown hK hP 0 rfl rfl 1 (by decide) lk11 (fun _ h9 => h9) rfl dX2_two_10 ?_
  refine lv_bipush (v := 7) hx hb dX2_two_13 (by decide) ?_
  refine lv_iload_n hx hb dX2_two_15 rfl (lv_at hl 2 rfl) ?_
  refine lv_iadd hx hb dX2_two_16 ?_
  obtain ⟨hi_2, h⟩ := h
  refine va_iald hx hb hK hP 1 0 rfl rfl hi_2 dX2_two_17 ?_
  refine lv_iadd hx hb dX2_two_18 ?_
  refine lv_iconst (v := 1) hx hb dX2_two_19 (by decide) ?_
  refine lv_iadd hx hb dX2_two_20 ?_
  refine lv_iconst (v := 2) hx hb dX2_two_21 (by decide) ?_
  refine lv_idiv hx hb dX2_two_22 (by decide) ?_
  exact hret ((((jat fl (7 + v1)) + (jat fl (7 + v2))) + 1) / 2) () _ _ _ _ dX2_two_23 (vp_nar_int _) h hP hD hS
def wp_X2_steep (fl : (Nat → Int32)) (v1 v2 v3 : Int32) (K : Int32 → Prop) : Prop := ∀ x4_1 : Int32, x4_1 = (2 * v1) - v2 → ∀ x5_2 : Int32, x5_2 = v1 - (v2 / 2) → (((-1) ≤ x4_1 → (((jrem x4_1 2) = 0 → wp_X2_two fl (v3 * x5_2) (v3 * (x5_2 + 1)) (fun (r_6 : Int32) => K r_6)) ∧ (¬ (jrem x4_1 2) = 0 → wp_X2_three fl (v3 * x5_2) (fun (r_5 : Int32) => K r_5)))) ∧ (¬ (-1) ≤ x4_1 → wp_X2_three fl (v3 * (1 - v2)) (fun (r_7 : Int32) => K r_7)))
abbrev jw_X2_steep : List Cond := .code yX2_steep cX2_steep 6 (some .int) :: jmAll
abbrev rmX2_steep : Room := { frames := 1, cells := 0, slots := 0, locals := 22 }
set_option maxHeartbeats 4000000 in
set_option maxRecDepth 100000 in
theorem c_X2_steep (l : Launch) (D : va_G) (cI cB : ClassId) (tt : Nat × Nat × Nat) (a_fo a_fol a_pi a_pix : Nat) (sz : Nat) (fa : Int32) (ff : Int32) (fm : Int32) (fl : (Nat → Int32)) (pa : Int32) (pd : Int32) (px : (Nat → Int32)) (v1 v2 v3 : Int32) {K : Int32 → Prop} (h : wp_X2_steep fl v1 v2 v3 K) : Met l yX2_steep jw_X2_steep rmX2_steep (va_Pc [.ref a_fo, .int v1, .int v2, .int v3] (jm_Pre D cI cB tt (wd_fo_fol_pi_pix cI cB a_fo a_fol a_pi a_pix fa ff fm fl pa pd px) sz)) (va_Qi (fun (r : Int32) (u : Unit) => K r) (jm_Post D cI cB (wd_fo_fol_pi_pix cI cB a_fo a_fol a_pi a_pix fa ff fm fl pa pd px) sz (fun (u : Unit) => wd_fo_fol_pi_pix cI cB a_fo a_fol a_pi a_pix fa ff fm fl pa pd px)) (va_A (wd_fo_fol_pi_pix cI cB a_fo a_fol a_pi a_pix fa ff fm fl pa pd px) sz)) 0 0 (va_A (wd_fo_fol_pi_pix cI cB a_fo a_fol a_pi a_pix fa ff fm fl pa pd px) sz) := by
  refine jm_metI (by decide +kernel) rfl rfl (Nat.le_of_ble_eq_true rfl) ?_
  intro p e s m args below meth c A Q ls C0 hP hD hl hret
  obtain ⟨hx, hb, hml, hr, hown, hts, hlocks, hA, hK, hE⟩ := C0
  have hS : va_S A s.heap s.heap [] := va_S.rf
  have hl : lv_has ls 6 [(0, .ref a_fo), (1, .int v1), (2, .int v2), (3, .int v3)] := hl
  unfold wp_X2_steep at h
  have hP : va_P D vwCl [(a_fo, .inr (2, [.ref a_pi, .ref a_fol, .int fa, .int ff, .int fm])), (a_fol, .inl (cI, 17, .inl fl)), (a_pi, .inr (3, [.ref a_pix, .int pa, .int pd])), (a_pix, .inl (cI, 1024, .inl px))] s.heap := hP
  have hD : va_D A [(a_fo, .inr (2, [.ref a_pi, .ref a_fol, .int fa, .int ff, .int fm])), (a_fol, .inl (cI, 17, .inl fl)), (a_pi, .inr (3, [.ref a_pix, .int pa, .int pd])), (a_pix, .inl (cI, 1024, .inl px))] := hD
  refine lv_iconst (v := 2) hx hb dX2_steep_0 (by decide) ?_
  refine lv_iload_n hx hb dX2_steep_1 rfl (lv_at hl 1 rfl) ?_
  refine lv_imul hx hb dX2_steep_2 ?_
  refine lv_iload_n hx hb dX2_steep_3 rfl (lv_at hl 2 rfl) ?_
  refine lv_isub hx hb dX2_steep_4 ?_
  refine lv_topi (fun x4_1 ex4_1 => ?_)
  have h := h x4_1 ex4_1
  refine lv_istore (lv' := [(4, .int x4_1), (0, .ref a_fo), (1, .int v1), (2, .int v2), (3, .int v3)]) hx hb dX2_steep_5 hl (by decide) rfl (fun ls hl => ?_)
  refine lv_iload_n hx hb dX2_steep_7 rfl (lv_at hl 2 rfl) ?_
  refine lv_iload_n hx hb dX2_steep_8 rfl (lv_at hl 3 rfl) ?_
  refine lv_iconst (v := 2) hx hb dX2_steep_9 (by decide) ?_
  refine lv_idiv hx hb dX2_steep_10 (by decide) ?_
  refine lv_isub hx hb dX2_steep_11 ?_
  refine lv_topi (fun x5_2 ex5_2 => ?_)
  have h := h x5_2 ex5_2
  refine lv_istore (lv' := [(5, .int x5_2), (4, .int x4_1), (0, .ref a_fo), (1, .int v1), (2, .int v2), (3, .int v3)]) hx hb dX2_steep_12 hl (by decide) rfl (fun ls hl => ?_)
  refine lv_iload hx hb dX2_steep_14 (lv_at hl 1 rfl) ?_
  refine lv_iconst (v := (-1)) hx hb dX2_steep_16 (by decide) ?_
  refine lv_icmp_ge (tgt := 30) hx hb dX2_steep_17 (by decide) (fun c_3 => ?_) (fun c_3 => ?_)
  · have h := h.1 c_3
    refine lv_iload hx hb dX2_steep_30 (lv_at hl 1 rfl) ?_
    refine lv_iconst (v := 2) hx hb dX2_steep_32 (by decide) ?_
    refine lv_irem hx hb dX2_steep_33 (by decide) ?_
    refine lv_if_ne (tgt := 54) hx hb dX2_steep_34 (by decide) (fun c_4 => ?_) (fun c_4 => ?_)
    · have h := h.2 c_4
      refine lv_aload_n hx hb dX2_steep_54 rfl (lv_at hl 2 rfl) ?_
      refine lv_iload_n hx hb dX2_steep_55 rfl (lv_at hl 5 rfl) ?_
      refine lv_iload hx hb dX2_steep_56 (lv_at hl 0 rfl) ?_
      refine lv_imul hx hb dX2_steep_58 ?_
      have hPc := hP.sub (ws' := [(a_fo, .inr (2, [.ref a_pi, .ref a_fol, .int fa, .int ff, .int fm])), (a_fol, .inl (cI, 17, .inl fl)), (a_pi, .inr (3, [.ref a_pix, .int pa, .int pd])), (a_pix, .inl (cI, 1024, .inl px))]) [0, 1, 2, 3] rfl
      have hDc := hD.sub (ws' := [(a_fo, .inr (2, [.ref a_pi, .ref a_fol, .int fa, .int ff, .int fm])), (a_fol, .inl (cI, 17, .inl fl)), (a_pi, .inr (3, [.ref a_pix, .int pa, .int pd])), (a_pix, .inl (cI, 1024, .inl px))]) [0, 1, 2, 3] (by decide) rfl
      have hFc := va_free (wc := [(a_fo, .inr (2, [.ref a_pi, .ref a_fol, .int fa, .int ff, .int fm])), (a_fol, .inl (cI, 17, .inl fl)), (a_pi, .inr (3, [.ref a_pix, .int pa, .int pd])), (a_pix, .inl (cI, 1024, .inl px))]) hD hS hA [0, 1, 2, 3] rfl
      refine jm_calli (wr := []) (va_runV (As := [.int (v3 * x5_2)]) (rest := []) ⟨hx, hb, hml, hown, hts⟩ (c_X2_three l D cI cB tt a_fo a_fol a_pi a_pix s.heap.size fa ff fm fl pa pd px (v3 * x5_2) h) (cwV 1 hts (jm_gV mw_439 mw_441 mw_9 mw_57 mw_442) rfl rfl rfl (by decide +kernel) ⟨Nat.le_of_ble_eq_true rfl, Nat.le_of_ble_eq_true rfl⟩) ⟨jm_blind, va_recv hK hPc (ci := 2) (q0 := 0) rfl rfl, jm_pre hK hE hS hPc hDc hFc _⟩ rfl rfl hl.1 rfl (lv_room (Nat.le_of_ble_eq_true rfl)) dX2_steep_59 ⟨Nat.zero_le _, Nat.zero_le _⟩) hS hP hD [0, 1, 2, 3] [] rfl rfl (by decide) (by decide) hFc (fun r_5 u_5 H_5 locs hw hP hD hS => ?_)
      have h := hw
      have hP : va_P D vwCl [(a_fo, .inr (2, [.ref a_pi, .ref a_fol, .int fa, .int ff, .int fm])), (a_fol, .inl (cI, 17, .inl fl)), (a_pi, .inr (3, [.ref a_pix, .int pa, .int pd])), (a_pix, .inl (cI, 1024, .inl px))] H_5 := hP.sub [0, 1, 2, 3] rfl
      have hD : va_D A [(a_fo, .inr (2, [.ref a_pi, .ref a_fol, .int fa, .int ff, .int fm])), (a_fol, .inl (cI, 17, .inl fl)), (a_pi, .inr (3, [.ref a_pix, .int pa, .int pd])), (a_pix, .inl (cI, 1024, .inl px))] := hD.sub [0, 1, 2, 3] (by decide) rfl
      exact hret r_5 () _ _ _ _ dX2_steep_62 (vp_nar_int _) h hP hD hS
    · have h := h.1 c_4
      refine lv_aload_n hx hb dX2_steep_37 rfl (lv_at hl 2 rfl) ?_
      refine lv_iload_n hx hb dX2_steep_38 rfl (lv_at hl 5 rfl) ?_
      refine lv_iload hx hb dX2_steep_39 (lv_at hl 0 rfl) ?_
      refine lv_imul hx hb dX2_steep_41 ?_
      refine lv_iload_n hx hb dX2_steep_42 rfl (lv_at hl 5 rfl) ?_
      refine lv_iload hx hb dX2_steep_43 (lv_at hl 0 rfl) ?_
      refine lv_iconst (v := 1) hx hb dX2_steep_45 (by decide) ?_
      refine lv_iadd hx hb dX2_steep_46 ?_
      refine lv_imul hx hb dX2_steep_47 ?_
      have hPc := hP.sub (ws' := [(a_fo, .inr (2, [.ref a_pi, .ref a_fol, .int fa, .int ff, .int fm])), (a_fol, .inl (cI, 17, .inl fl)), (a_pi, .inr (3, [.ref a_pix, .int pa, .int pd])), (a_pix, .inl (cI, 1024, .inl px))]) [0, 1, 2, 3] rfl
      have hDc := hD.sub (ws' := [(a_fo, .inr (2, [.ref a_pi, .ref a_fol, .int fa, .int ff, .int fm])), (a_fol, .inl (cI, 17, .inl fl)), (a_pi, .inr (3, [.ref a_pix, .int pa, .int pd])), (a_pix, .inl (cI, 1024, .inl px))]) [0, 1, 2, 3] (by decide) rfl
      have hFc := va_free (wc := [(a_fo, .inr (2, [.ref a_pi, .ref a_fol, .int fa, .int ff, .int fm])), (a_fol, .inl (cI, 17, .inl fl)), (a_pi, .inr (3, [.ref a_pix, .int pa, .int pd])), (a_pix, .inl (cI, 1024, .inl px))]) hD hS hA [0, 1, 2, 3] rfl
      refine jm_calli (wr := []) (va_runV (As := [.int (v3 * x5_2), .int (v3 * (x5_2 + 1))]) (rest := []) ⟨hx, hb, hml, hown, hts⟩ (c_X2_two l D cI cB tt a_fo a_fol a_pi a_pix s.heap.size fa ff fm fl pa pd px (v3 * x5_2) (v3 * (x5_2 + 1)) h) (cwV 2 hts (jm_gV mw_447 mw_449 mw_11 mw_57 mw_450) rfl rfl rfl (by decide +kernel) ⟨Nat.le_of_ble_eq_true rfl, Nat.le_of_ble_eq_true rfl⟩) ⟨jm_blind, va_recv hK hPc (ci := 2) (q0 := 0) rfl rfl, jm_pre hK hE hS hPc hDc hFc _⟩ rfl rfl hl.1 rfl (lv_room (Nat.le_of_ble_eq_true rfl)) dX2_steep_48 ⟨Nat.zero_le _, Nat.zero_le _⟩) hS hP hD [0, 1, 2, 3] [] rfl rfl (by decide) (by decide) hFc (fun r_6 u_6 H_6 locs hw hP hD hS => ?_)
      have h := hw
      have hP : va_P D vwCl [(a_fo, .inr (2, [.ref a_pi, .ref a_fol, .int fa, .int ff, .int fm])), (a_fol, .inl (cI, 17, .inl fl)), (a_pi, .inr (3, [.ref a_pix, .int pa, .int pd])), (a_pix, .inl (cI, 1024, .inl px))] H_6 := hP.sub [0, 1, 2, 3] rfl
      have hD : va_D A [(a_fo, .inr (2, [.ref a_pi, .ref a_fol, .int fa, .int ff, .int fm])), (a_fol, .inl (cI, 17, .inl fl)), (a_pi, .inr (3, [.ref a_pix, .int pa, .int pd])), (a_pix, .inl (cI, 1024, .inl px))] := hD.sub [0, 1, 2, 3] (by decide) rfl
      refine lv_goto (tgt := 62) hx hb dX2_steep_51 (by decide) ?_
      exact hret r_6 () _ _ _ _ dX2_steep_62 (vp_nar_int _) h hP hD hS
  · have h := h.2 c_3
    refine lv_aload_n hx hb dX2_steep_20 rfl (lv_at hl 2 rfl) ?_
    refine lv_iload_n hx hb dX2_steep_21 rfl (lv_at hl 5 rfl) ?_
    refine lv_iconst (v := 1) hx hb dX2_steep_22 (by decide) ?_
    refine lv_iload_n hx hb dX2_steep_23 rfl (lv_at hl 4 rfl) ?_
    refine lv_isub hx hb dX2_steep_24 ?_
    refine lv_imul hx hb dX2_steep_25 ?_
    have hPc := hP.sub (ws' := [(a_fo, .inr (2, [.ref a_pi, .ref a_fol, .int fa, .int ff, .int fm])), (a_fol, .inl (cI, 17, .inl fl)), (a_pi, .inr (3, [.ref a_pix, .int pa, .int pd])), (a_pix, .inl (cI, 1024, .inl px))]) [0, 1, 2, 3] rfl
    have hDc := hD.sub (ws' := [(a_fo, .inr (2, [.ref a_pi, .ref a_fol, .int fa, .int ff, .int fm])), (a_fol, .inl (cI, 17, .inl fl)), (a_pi, .inr (3, [.ref a_pix, .int pa, .int pd])), (a_pix, .inl (cI, 1024, .inl px))]) [0, 1, 2, 3] (by decide) rfl
    have hFc := va_free (wc := [(a_fo, .inr (2, [.ref a_pi, .ref a_fol, .int fa, .int ff, .int fm])), (a_fol, .inl (cI, 17, .inl fl)), (a_pi, .inr (3, [.ref a_pix, .int pa, .int pd])), (a_pix, .inl (cI, 1024, .inl px))]) hD hS hA [0, 1, 2, 3] rfl
    refine jm_calli (wr := []) (va_runV (As := [.int (v3 * (1 - v2))]) (rest := []) ⟨hx, hb, hml, hown, hts⟩ (c_X2_three l D cI cB tt a_fo a_fol a_pi a_pix s.heap.size fa ff fm fl pa pd px (v3 * (1 - v2)) h) (cwV 1 hts (jm_gV mw_439 mw_441 mw_9 mw_57 mw_442) rfl rfl rfl (by decide +kernel) ⟨Nat.le_of_ble_eq_true rfl, Nat.le_of_ble_eq_true rfl⟩) ⟨jm_blind, va_recv hK hPc (ci := 2) (q0 := 0) rfl rfl, jm_pre hK hE hS hPc hDc hFc _⟩ rfl rfl hl.1 rfl (lv_room (Nat.le_of_ble_eq_true rfl)) dX2_steep_26 ⟨Nat.zero_le _, Nat.zero_le _⟩) hS hP hD [0, 1, 2, 3] [] rfl rfl (by decide) (by decide) hFc (fun r_7 u_7 H_7 locs hw hP hD hS => ?_)
    have h := hw
    have hP : va_P D vwCl [(a_fo, .inr (2, [.ref a_pi, .ref a_fol, .int fa, .int ff, .int fm])), (a_fol, .inl (cI, 17, .inl fl)), (a_pi, .inr (3, [.ref a_pix, .int pa, .int pd])), (a_pix, .inl (cI, 1024, .inl px))] H_7 := hP.sub [0, 1, 2, 3] rfl
    have hD : va_D A [(a_fo, .inr (2, [.ref a_pi, .ref a_fol, .int fa, .int ff, .int fm])), (a_fol, .inl (cI, 17, .inl fl)), (a_pi, .inr (3, [.ref a_pix, .int pa, .int pd])), (a_pix, .inl (cI, 1024, .inl px))] := hD.sub [0, 1, 2, 3] (by decide) rfl
    exact hret r_7 () _ _ _ _ dX2_steep_29 (vp_nar_int _) h hP hD hS
def wp_X2_leaning (fl : (Nat → Int32)) (v1 v2 v3 : Int32) (K : Int32 → Prop) : Prop := ∀ x4_1 : Int32, x4_1 = v1 + (v2 / 2) → (((jrem v2 2) = 0 → wp_X2_two fl (v3 * (x4_1 + 1)) (v3 * (x4_1 + 2)) (fun (r_4 : Int32) => K r_4)) ∧ (¬ (jrem v2 2) = 0 → wp_X2_three fl (v3 * (x4_1 + 2)) (fun (r_3 : Int32) => K r_3)))
abbrev jw_X2_leaning : List Cond := .code yX2_leaning cX2_leaning 5 (some .int) :: jmAll
abbrev rmX2_leaning : Room := { frames := 1, cells := 0, slots := 0, locals := 22 }
set_option maxHeartbeats 4000000 in
set_option maxRecDepth 100000 in
theorem c_X2_leaning (l : Launch) (D : va_G) (cI cB : ClassId) (tt : Nat × Nat × Nat) (a_fo a_fol a_pi a_pix : Nat) (sz : Nat) (fa : Int32) (ff : Int32) (fm : Int32) (fl : (Nat → Int32)) (pa : Int32) (pd : Int32) (px : (Nat → Int32)) (v1 v2 v3 : Int32) {K : Int32 → Prop} (h : wp_X2_leaning fl v1 v2 v3 K) : Met l yX2_leaning jw_X2_leaning rmX2_leaning (va_Pc [.ref a_fo, .int v1, .int v2, .int v3] (jm_Pre D cI cB tt (wd_fo_fol_pi_pix cI cB a_fo a_fol a_pi a_pix fa ff fm fl pa pd px) sz)) (va_Qi (fun (r : Int32) (u : Unit) => K r) (jm_Post D cI cB (wd_fo_fol_pi_pix cI cB a_fo a_fol a_pi a_pix fa ff fm fl pa pd px) sz (fun (u : Unit) => wd_fo_fol_pi_pix cI cB a_fo a_fol a_pi a_pix fa ff fm fl pa pd px)) (va_A (wd_fo_fol_pi_pix cI cB a_fo a_fol a_pi a_pix fa ff fm fl pa pd px) sz)) 0 0 (va_A (wd_fo_fol_pi_pix cI cB a_fo a_fol a_pi a_pix fa ff fm fl pa pd px) sz) := by
  refine jm_metI (by decide +kernel) rfl rfl (Nat.le_of_ble_eq_true rfl) ?_
  intro p e s m args below meth c A Q ls C0 hP hD hl hret
  obtain ⟨hx, hb, hml, hr, hown, hts, hlocks, hA, hK, hE⟩ := C0
  have hS : va_S A s.heap s.heap [] := va_S.rf
  have hl : lv_has ls 5 [(0, .ref a_fo), (1, .int v1), (2, .int v2), (3, .int v3)] := hl
  unfold wp_X2_leaning at h
  have hP : va_P D vwCl [(a_fo, .inr (2, [.ref a_pi, .ref a_fol, .int fa, .int ff, .int fm])), (a_fol, .inl (cI, 17, .inl fl)), (a_pi, .inr (3, [.ref a_pix, .int pa, .int pd])), (a_pix, .inl (cI, 1024, .inl px))] s.heap := hP
  have hD : va_D A [(a_fo, .inr (2, [.ref a_pi, .ref a_fol, .int fa, .int ff, .int fm])), (a_fol, .inl (cI, 17, .inl fl)), (a_pi, .inr (3, [.ref a_pix, .int pa, .int pd])), (a_pix, .inl (cI, 1024, .inl px))] := hD
  refine lv_iload_n hx hb dX2_leaning_0 rfl (lv_at hl 1 rfl) ?_
  refine lv_iload_n hx hb dX2_leaning_1 rfl (lv_at hl 2 rfl) ?_
  refine lv_iconst (v := 2) hx hb dX2_leaning_2 (by decide) ?_
  refine lv_idiv hx hb dX2_leaning_3 (by decide) ?_
  refine lv_iadd hx hb dX2_leaning_4 ?_
  refine lv_topi (fun x4_1 ex4_1 => ?_)
  have h := h x4_1 ex4_1
  refine lv_istore (lv' := [(4, .int x4_1), (0, .ref a_fo), (1, .int v1), (2, .int v2), (3, .int v3)]) hx hb dX2_leaning_5 hl (by decide) rfl (fun ls hl => ?_)
  refine lv_iload_n hx hb dX2_leaning_7 rfl (lv_at hl 3 rfl) ?_
  refine lv_iconst (v := 2) hx hb dX2_leaning_8 (by decide) ?_
  refine lv_irem hx hb dX2_leaning_9 (by decide) ?_
  refine lv_if_ne (tgt := 32) hx hb dX2_leaning_10 (by decide) (fun c_2 => ?_) (fun c_2 => ?_)
  · have h := h.2 c_2
    refine lv_aload_n hx hb dX2_leaning_32 rfl (lv_at hl 1 rfl) ?_
    refine lv_iload_n hx hb dX2_leaning_33 rfl (lv_at hl 4 rfl) ?_
    refine lv_iload hx hb dX2_leaning_34 (lv_at hl 0 rfl) ?_
    refine lv_iconst (v := 2) hx hb dX2_leaning_36 (by decide) ?_
    refine lv_iadd hx hb dX2_leaning_37 ?_
    refine lv_imul hx hb dX2_leaning_38 ?_
    have hPc := hP.sub (ws' := [(a_fo, .inr (2, [.ref a_pi, .ref a_fol, .int fa, .int ff, .int fm])), (a_fol, .inl (cI, 17, .inl fl)), (a_pi, .inr (3, [.ref a_pix, .int pa, .int pd])), (a_pix, .inl (cI, 1024, .inl px))]) [0, 1, 2, 3] rfl
    have hDc := hD.sub (ws' := [(a_fo, .inr (2, [.ref a_pi, .ref a_fol, .int fa, .int ff, .int fm])), (a_fol, .inl (cI, 17, .inl fl)), (a_pi, .inr (3, [.ref a_pix, .int pa, .int pd])), (a_pix, .inl (cI, 1024, .inl px))]) [0, 1, 2, 3] (by decide) rfl
    have hFc := va_free (wc := [(a_fo, .inr (2, [.ref a_pi, .ref a_fol, .int fa, .int ff, .int fm])), (a_fol, .inl (cI, 17, .inl fl)), (a_pi, .inr (3, [.ref a_pix, .int pa, .int pd])), (a_pix, .inl (cI, 1024, .inl px))]) hD hS hA [0, 1, 2, 3] rfl
    refine jm_calli (wr := []) (va_runV (As := [.int (v3 * (x4_1 + 2))]) (rest := []) ⟨hx, hb, hml, hown, hts⟩ (c_X2_three l D cI cB tt a_fo a_fol a_pi a_pix s.heap.size fa ff fm fl pa pd px (v3 * (x4_1 + 2)) h) (cwV 1 hts (jm_gV mw_439 mw_441 mw_9 mw_57 mw_442) rfl rfl rfl (by decide +kernel) ⟨Nat.le_of_ble_eq_true rfl, Nat.le_of_ble_eq_true rfl⟩) ⟨jm_blind, va_recv hK hPc (ci := 2) (q0 := 0) rfl rfl, jm_pre hK hE hS hPc hDc hFc _⟩ rfl rfl hl.1 rfl (lv_room (Nat.le_of_ble_eq_true rfl)) dX2_leaning_39 ⟨Nat.zero_le _, Nat.zero_le _⟩) hS hP hD [0, 1, 2, 3] [] rfl rfl (by decide) (by decide) hFc (fun r_3 u_3 H_3 locs hw hP hD hS => ?_)
    have h := hw
    have hP : va_P D vwCl [(a_fo, .inr (2, [.ref a_pi, .ref a_fol, .int fa, .int ff, .int fm])), (a_fol, .inl (cI, 17, .inl fl)), (a_pi, .inr (3, [.ref a_pix, .int pa, .int pd])), (a_pix, .inl (cI, 1024, .inl px))] H_3 := hP.sub [0, 1, 2, 3] rfl
    have hD : va_D A [(a_fo, .inr (2, [.ref a_pi, .ref a_fol, .int fa, .int ff, .int fm])), (a_fol, .inl (cI, 17, .inl fl)), (a_pi, .inr (3, [.ref a_pix, .int pa, .int pd])), (a_pix, .inl (cI, 1024, .inl px))] := hD.sub [0, 1, 2, 3] (by decide) rfl
    exact hret r_3 () _ _ _ _ dX2_leaning_42 (vp_nar_int _) h hP hD hS
  · have h := h.1 c_2
    refine lv_aload_n hx hb dX2_leaning_13 rfl (lv_at hl 1 rfl) ?_
    refine lv_iload_n hx hb dX2_leaning_14 rfl (lv_at hl 4 rfl) ?_
    refine lv_iload hx hb dX2_leaning_15 (lv_at hl 0 rfl) ?_
    refine lv_iconst (v := 1) hx hb dX2_leaning_17 (by decide) ?_
    refine lv_iadd hx hb dX2_leaning_18 ?_
    refine lv_imul hx hb dX2_leaning_19 ?_
    refine lv_iload_n hx hb dX2_leaning_20 rfl (lv_at hl 4 rfl) ?_
    refine lv_iload hx hb dX2_leaning_21 (lv_at hl 0 rfl) ?_
    refine lv_iconst (v := 2) hx hb dX2_leaning_23 (by decide) ?_
    refine lv_iadd hx hb dX2_leaning_24 ?_
    refine lv_imul hx hb dX2_leaning_25 ?_
    have hPc := hP.sub (ws' := [(a_fo, .inr (2, [.ref a_pi, .ref a_fol, .int fa, .int ff, .int fm])), (a_fol, .inl (cI, 17, .inl fl)), (a_pi, .inr (3, [.ref a_pix, .int pa, .int pd])), (a_pix, .inl (cI, 1024, .inl px))]) [0, 1, 2, 3] rfl
    have hDc := hD.sub (ws' := [(a_fo, .inr (2, [.ref a_pi, .ref a_fol, .int fa, .int ff, .int fm])), (a_fol, .inl (cI, 17, .inl fl)), (a_pi, .inr (3, [.ref a_pix, .int pa, .int pd])), (a_pix, .inl (cI, 1024, .inl px))]) [0, 1, 2, 3] (by decide) rfl
    have hFc := va_free (wc := [(a_fo, .inr (2, [.ref a_pi, .ref a_fol, .int fa, .int ff, .int fm])), (a_fol, .inl (cI, 17, .inl fl)), (a_pi, .inr (3, [.ref a_pix, .int pa, .int pd])), (a_pix, .inl (cI, 1024, .inl px))]) hD hS hA [0, 1, 2, 3] rfl
    refine jm_calli (wr := []) (va_runV (As := [.int (v3 * (x4_1 + 1)), .int (v3 * (x4_1 + 2))]) (rest := []) ⟨hx, hb, hml, hown, hts⟩ (c_X2_two l D cI cB tt a_fo a_fol a_pi a_pix s.heap.size fa ff fm fl pa pd px (v3 * (x4_1 + 1)) (v3 * (x4_1 + 2)) h) (cwV 2 hts (jm_gV mw_447 mw_449 mw_11 mw_57 mw_450) rfl rfl rfl (by decide +kernel) ⟨Nat.le_of_ble_eq_true rfl, Nat.le_of_ble_eq_true rfl⟩) ⟨jm_blind, va_recv hK hPc (ci := 2) (q0 := 0) rfl rfl, jm_pre hK hE hS hPc hDc hFc _⟩ rfl rfl hl.1 rfl (lv_room (Nat.le_of_ble_eq_true rfl)) dX2_leaning_26 ⟨Nat.zero_le _, Nat.zero_le _⟩) hS hP hD [0, 1, 2, 3] [] rfl rfl (by decide) (by decide) hFc (fun r_4 u_4 H_4 locs hw hP hD hS => ?_)
    have h := hw
    have hP : va_P D vwCl [(a_fo, .inr (2, [.ref a_pi, .ref a_fol, .int fa, .int ff, .int fm])), (a_fol, .inl (cI, 17, .inl fl)), (a_pi, .inr (3, [.ref a_pix, .int pa, .int pd])), (a_pix, .inl (cI, 1024, .inl px))] H_4 := hP.sub [0, 1, 2, 3] rfl
    have hD : va_D A [(a_fo, .inr (2, [.ref a_pi, .ref a_fol, .int fa, .int ff, .int fm])), (a_fol, .inl (cI, 17, .inl fl)), (a_pi, .inr (3, [.ref a_pix, .int pa, .int pd])), (a_pix, .inl (cI, 1024, .inl px))] := hD.sub [0, 1, 2, 3] (by decide) rfl
    refine lv_goto (tgt := 42) hx hb dX2_leaning_29 (by decide) ?_
    exact hret r_4 () _ _ _ _ dX2_leaning_42 (vp_nar_int _) h hP hD hS
def wp_X2_guess (fm : Int32) (fl : (Nat → Int32)) (v1 v2 v3 : Int32) (K : Int32 → Prop) : Prop := ((v1 = 0 → vp_in (8 + v2) 17 ∧ K (jat fl (8 + v2))) ∧ (¬ v1 = 0 → (v1 = 1 → vp_in (6 - v3) 17 ∧ K (jat fl (6 - v3))) ∧ (¬ v1 = 1 → (v1 = 2 → K fm) ∧ (¬ v1 = 2 → (v1 = 3 → wp_X2_three fl ((v2 + v3) + 2) (fun (r_7 : Int32) => K r_7)) ∧ (¬ v1 = 3 → (v1 = 4 → wp_X2_three fl (v2 - v3) (fun (r_9 : Int32) => K r_9)) ∧ (¬ v1 = 4 → (v1 = 5 → wp_X2_steep fl v2 v3 1 (fun (r_11 : Int32) => K r_11)) ∧ (¬ v1 = 5 → (v1 = 6 → wp_X2_steep fl v3 v2 (-1) (fun (r_13 : Int32) => K r_13)) ∧ (¬ v1 = 6 → (v1 = 7 → wp_X2_leaning fl v2 v3 1 (fun (r_15 : Int32) => K r_15)) ∧ (¬ v1 = 7 → wp_X2_leaning fl v3 v2 (-1) (fun (r_16 : Int32) => K r_16))))))))))
abbrev jw_X2_guess : List Cond := .code yX2_guess cX2_guess 4 (some .int) :: jmAll
abbrev rmX2_guess : Room := { frames := 2, cells := 0, slots := 0, locals := 47 }
set_option maxHeartbeats 4000000 in
set_option maxRecDepth 100000 in
theorem c_X2_guess (l : Launch) (D : va_G) (cI cB : ClassId) (tt : Nat × Nat × Nat) (a_fo a_fol a_pi a_pix : Nat) (sz : Nat) (fa : Int32) (ff : Int32) (fm : Int32) (fl : (Nat → Int32)) (pa : Int32) (pd : Int32) (px : (Nat → Int32)) (v1 v2 v3 : Int32) {K : Int32 → Prop} (h : wp_X2_guess fm fl v1 v2 v3 K) : Met l yX2_guess jw_X2_guess rmX2_guess (va_Pc [.ref a_fo, .int v1, .int v2, .int v3] (jm_Pre D cI cB tt (wd_fo_fol_pi_pix cI cB a_fo a_fol a_pi a_pix fa ff fm fl pa pd px) sz)) (va_Qi (fun (r : Int32) (u : Unit) => K r) (jm_Post D cI cB (wd_fo_fol_pi_pix cI cB a_fo a_fol a_pi a_pix fa ff fm fl pa pd px) sz (fun (u : Unit) => wd_fo_fol_pi_pix cI cB a_fo a_fol a_pi a_pix fa ff fm fl pa pd px)) (va_A (wd_fo_fol_pi_pix cI cB a_fo a_fol a_pi a_pix fa ff fm fl pa pd px) sz)) 0 0 (va_A (wd_fo_fol_pi_pix cI cB a_fo a_fol a_pi a_pix fa ff fm fl pa pd px) sz) := by
  refine jm_metI (by decide +kernel) rfl rfl (Nat.le_of_ble_eq_true rfl) ?_
  intro p e s m args below meth c A Q ls C0 hP hD hl hret
  obtain ⟨hx, hb, hml, hr, hown, hts, hlocks, hA, hK, hE⟩ := C0
  have hS : va_S A s.heap s.heap [] := va_S.rf
  have hl : lv_has ls 4 [(0, .ref a_fo), (1, .int v1), (2, .int v2), (3, .int v3)] := hl
  unfold wp_X2_guess at h
  have hP : va_P D vwCl [(a_fo, .inr (2, [.ref a_pi, .ref a_fol, .int fa, .int ff, .int fm])), (a_fol, .inl (cI, 17, .inl fl)), (a_pi, .inr (3, [.ref a_pix, .int pa, .int pd])), (a_pix, .inl (cI, 1024, .inl px))] s.heap := hP
  have hD : va_D A [(a_fo, .inr (2, [.ref a_pi, .ref a_fol, .int fa, .int ff, .int fm])), (a_fol, .inl (cI, 17, .inl fl)), (a_pi, .inr (3, [.ref a_pix, .int pa, .int pd])), (a_pix, .inl (cI, 1024, .inl px))] := hD
  have iX2 : ∀ w ∈ wsX20, w ∈ jw_X2_guess := fun w h => List.mem_cons_of_mem _ (jm_iX2 w h)
  have lk11 := hts (.fieldLink RX2 11 "IntraMill$Foretelling" "line" "[I") (List.mem_cons_of_mem _ mw_107)
  have lk50 := hts (.fieldLink RX2 50 "IntraMill$Foretelling" "mean" "I") (List.mem_cons_of_mem _ mw_110)
  refine lv_iload_n hx hb dX2_guess_0 rfl (lv_at hl 1 rfl) ?_
  by_cases c_1 : v1 = 0
  · have h := h.1 c_1
    refine lv_tableIn (tgt := 48) hx hb dX2_guess_1 (by rw [c_1]; decide) (by rw [c_1]; decide) (off := 47) (by rw [c_1]; decide) (by decide) ?_
    refine lv_aload_n hx hb dX2_guess_48 rfl (lv_at hl 0 rfl) ?_
    refine va_get (D := D) (ci := 2) (v := .ref a_fol) (C := RX2) (T := TX2) (N := 5) hx hb hts iX2 hown hK hP 0 rfl rfl 1 (by decide) lk11 (fun _ h9 => h9) rfl dX2_guess_49 ?_
    refine lv_bipush (v := 8) hx hb dX2_guess_52 (by decide) ?_
    refine lv_iload_n hx hb dX2_guess_54 rfl (lv_at hl 2 rfl) ?_
    refine lv_iadd hx hb dX2_guess_55 ?_
    obtain ⟨hi_2, h⟩ := h
    refine va_iald hx hb hK hP 1 0 rfl rfl hi_2 dX2_guess_56 ?_
    exact hret (jat fl (8 + v2)) () _ _ _ _ dX2_guess_57 (vp_nar_int _) h hP hD hS
  have h := h.2 c_1
  by_cases c_3 : v1 = 1
  · have h := h.1 c_3
    refine lv_tableIn (tgt := 58) hx hb dX2_guess_1 (by rw [c_3]; decide) (by rw [c_3]; decide) (off := 57) (by rw [c_3]; decide) (by decide) ?_
    refine lv_aload_n hx hb dX2_guess_58 rfl (lv_at hl 0 rfl) ?_
    refine va_get (D := D) (ci := 2) (v := .ref a_fol) (C := RX2) (T := TX2) (N := 5) hx hb hts iX2 hown hK hP 0 rfl rfl 1 (by decide) lk11 (fun _ h9 => h9) rfl dX2_guess_59 ?_
    refine lv_bipush (v := 6) hx hb dX2_guess_62 (by decide) ?_
    refine lv_iload_n hx hb dX2_guess_64 rfl (lv_at hl 3 rfl) ?_
    refine lv_isub hx hb dX2_guess_65 ?_
    obtain ⟨hi_4, h⟩ := h
    refine va_iald hx hb hK hP 1 0 rfl rfl hi_4 dX2_guess_66 ?_
    exact hret (jat fl (6 - v3)) () _ _ _ _ dX2_guess_67 (vp_nar_int _) h hP hD hS
  have h := h.2 c_3
  by_cases c_5 : v1 = 2
  · have h := h.1 c_5
    refine lv_tableIn (tgt := 68) hx hb dX2_guess_1 (by rw [c_5]; decide) (by rw [c_5]; decide) (off := 67) (by rw [c_5]; decide) (by decide) ?_
    refine lv_aload_n hx hb dX2_guess_68 rfl (lv_at hl 0 rfl) ?_
    refine va_get (D := D) (ci := 2) (v := .int fm) (C := RX2) (T := TX2) (N := 5) hx hb hts iX2 hown hK hP 0 rfl rfl 4 (by decide) lk50 (fun _ h9 => h9) rfl dX2_guess_69 ?_
    exact hret fm () _ _ _ _ dX2_guess_72 (vp_nar_int _) h hP hD hS
  have h := h.2 c_5
  by_cases c_6 : v1 = 3
  · have h := h.1 c_6
    refine lv_tableIn (tgt := 73) hx hb dX2_guess_1 (by rw [c_6]; decide) (by rw [c_6]; decide) (off := 72) (by rw [c_6]; decide) (by decide) ?_
    refine lv_aload_n hx hb dX2_guess_73 rfl (lv_at hl 0 rfl) ?_
    refine lv_iload_n hx hb dX2_guess_74 rfl (lv_at hl 2 rfl) ?_
    refine lv_iload_n hx hb dX2_guess_75 rfl (lv_at hl 3 rfl) ?_
    refine lv_iadd hx hb dX2_guess_76 ?_
    refine lv_iconst (v := 2) hx hb dX2_guess_77 (by decide) ?_
    refine lv_iadd hx hb dX2_guess_78 ?_
    have hPc := hP.sub (ws' := [(a_fo, .inr (2, [.ref a_pi, .ref a_fol, .int fa, .int ff, .int fm])), (a_fol, .inl (cI, 17, .inl fl)), (a_pi, .inr (3, [.ref a_pix, .int pa, .int pd])), (a_pix, .inl (cI, 1024, .inl px))]) [0, 1, 2, 3] rfl
    have hDc := hD.sub (ws' := [(a_fo, .inr (2, [.ref a_pi, .ref a_fol, .int fa, .int ff, .int fm])), (a_fol, .inl (cI, 17, .inl fl)), (a_pi, .inr (3, [.ref a_pix, .int pa, .int pd])), (a_pix, .inl (cI, 1024, .inl px))]) [0, 1, 2, 3] (by decide) rfl
    have hFc := va_free (wc := [(a_fo, .inr (2, [.ref a_pi, .ref a_fol, .int fa, .int ff, .int fm])), (a_fol, .inl (cI, 17, .inl fl)), (a_pi, .inr (3, [.ref a_pix, .int pa, .int pd])), (a_pix, .inl (cI, 1024, .inl px))]) hD hS hA [0, 1, 2, 3] rfl
    refine jm_calli (wr := []) (va_runV (As := [.int ((v2 + v3) + 2)]) (rest := []) ⟨hx, hb, hml, hown, hts⟩ (c_X2_three l D cI cB tt a_fo a_fol a_pi a_pix s.heap.size fa ff fm fl pa pd px ((v2 + v3) + 2) h) (cwV 1 hts (jm_gV mw_439 mw_441 mw_9 mw_57 mw_442) rfl rfl rfl (by decide +kernel) ⟨Nat.le_of_ble_eq_true rfl, Nat.le_of_ble_eq_true rfl⟩) ⟨jm_blind, va_recv hK hPc (ci := 2) (q0 := 0) rfl rfl, jm_pre hK hE hS hPc hDc hFc _⟩ rfl rfl hl.1 rfl (lv_room (Nat.le_of_ble_eq_true rfl)) dX2_guess_79 ⟨Nat.zero_le _, Nat.zero_le _⟩) hS hP hD [0, 1, 2, 3] [] rfl rfl (by decide) (by decide) hFc (fun r_7 u_7 H_7 locs hw hP hD hS => ?_)
    have h := hw
    have hP : va_P D vwCl [(a_fo, .inr (2, [.ref a_pi, .ref a_fol, .int fa, .int ff, .int fm])), (a_fol, .inl (cI, 17, .inl fl)), (a_pi, .inr (3, [.ref a_pix, .int pa, .int pd])), (a_pix, .inl (cI, 1024, .inl px))] H_7 := hP.sub [0, 1, 2, 3] rfl
    have hD : va_D A [(a_fo, .inr (2, [.ref a_pi, .ref a_fol, .int fa, .int ff, .int fm])), (a_fol, .inl (cI, 17, .inl fl)), (a_pi, .inr (3, [.ref a_pix, .int pa, .int pd])), (a_pix, .inl (cI, 1024, .inl px))] := hD.sub [0, 1, 2, 3] (by decide) rfl
    exact hret r_7 () _ _ _ _ dX2_guess_82 (vp_nar_int _) h hP hD hS
  have h := h.2 c_6
  by_cases c_8 : v1 = 4
  · have h := h.1 c_8
    refine lv_tableIn (tgt := 83) hx hb dX2_guess_1 (by rw [c_8]; decide) (by rw [c_8]; decide) (off := 82) (by rw [c_8]; decide) (by decide) ?_
    refine lv_aload_n hx hb dX2_guess_83 rfl (lv_at hl 0 rfl) ?_
    refine lv_iload_n hx hb dX2_guess_84 rfl (lv_at hl 2 rfl) ?_
    refine lv_iload_n hx hb dX2_guess_85 rfl (lv_at hl 3 rfl) ?_
    refine lv_isub hx hb dX2_guess_86 ?_
    have hPc := hP.sub (ws' := [(a_fo, .inr (2, [.ref a_pi, .ref a_fol, .int fa, .int ff, .int fm])), (a_fol, .inl (cI, 17, .inl fl)), (a_pi, .inr (3, [.ref a_pix, .int pa, .int pd])), (a_pix, .inl (cI, 1024, .inl px))]) [0, 1, 2, 3] rfl
    have hDc := hD.sub (ws' := [(a_fo, .inr (2, [.ref a_pi, .ref a_fol, .int fa, .int ff, .int fm])), (a_fol, .inl (cI, 17, .inl fl)), (a_pi, .inr (3, [.ref a_pix, .int pa, .int pd])), (a_pix, .inl (cI, 1024, .inl px))]) [0, 1, 2, 3] (by decide) rfl
    have hFc := va_free (wc := [(a_fo, .inr (2, [.ref a_pi, .ref a_fol, .int fa, .int ff, .int fm])), (a_fol, .inl (cI, 17, .inl fl)), (a_pi, .inr (3, [.ref a_pix, .int pa, .int pd])), (a_pix, .inl (cI, 1024, .inl px))]) hD hS hA [0, 1, 2, 3] rfl
    refine jm_calli (wr := []) (va_runV (As := [.int (v2 - v3)]) (rest := []) ⟨hx, hb, hml, hown, hts⟩ (c_X2_three l D cI cB tt a_fo a_fol a_pi a_pix s.heap.size fa ff fm fl pa pd px (v2 - v3) h) (cwV 1 hts (jm_gV mw_439 mw_441 mw_9 mw_57 mw_442) rfl rfl rfl (by decide +kernel) ⟨Nat.le_of_ble_eq_true rfl, Nat.le_of_ble_eq_true rfl⟩) ⟨jm_blind, va_recv hK hPc (ci := 2) (q0 := 0) rfl rfl, jm_pre hK hE hS hPc hDc hFc _⟩ rfl rfl hl.1 rfl (lv_room (Nat.le_of_ble_eq_true rfl)) dX2_guess_87 ⟨Nat.zero_le _, Nat.zero_le _⟩) hS hP hD [0, 1, 2, 3] [] rfl rfl (by decide) (by decide) hFc (fun r_9 u_9 H_9 locs hw hP hD hS => ?_)
    have h := hw
    have hP : va_P D vwCl [(a_fo, .inr (2, [.ref a_pi, .ref a_fol, .int fa, .int ff, .int fm])), (a_fol, .inl (cI, 17, .inl fl)), (a_pi, .inr (3, [.ref a_pix, .int pa, .int pd])), (a_pix, .inl (cI, 1024, .inl px))] H_9 := hP.sub [0, 1, 2, 3] rfl
    have hD : va_D A [(a_fo, .inr (2, [.ref a_pi, .ref a_fol, .int fa, .int ff, .int fm])), (a_fol, .inl (cI, 17, .inl fl)), (a_pi, .inr (3, [.ref a_pix, .int pa, .int pd])), (a_pix, .inl (cI, 1024, .inl px))] := hD.sub [0, 1, 2, 3] (by decide) rfl
    exact hret r_9 () _ _ _ _ dX2_guess_90 (vp_nar_int _) h hP hD hS
  have h := h.2 c_8
  by_cases c_10 : v1 = 5
  · have h := h.1 c_10
    refine lv_tableIn (tgt := 91) hx hb dX2_guess_1 (by rw [c_10]; decide) (by rw [c_10]; decide) (off := 90) (by rw [c_10]; decide) (by decide) ?_
    refine lv_aload_n hx hb dX2_guess_91 rfl (lv_at hl 0 rfl) ?_
    refine lv_iload_n hx hb dX2_guess_92 rfl (lv_at hl 2 rfl) ?_
    refine lv_iload_n hx hb dX2_guess_93 rfl (lv_at hl 3 rfl) ?_
    refine lv_iconst (v := 1) hx hb dX2_guess_94 (by decide) ?_
    have hPc := hP.sub (ws' := [(a_fo, .inr (2, [.ref a_pi, .ref a_fol, .int fa, .int ff, .int fm])), (a_fol, .inl (cI, 17, .inl fl)), (a_pi, .inr (3, [.ref a_pix, .int pa, .int pd])), (a_pix, .inl (cI, 1024, .inl px))]) [0, 1, 2, 3] rfl
    have hDc := hD.sub (ws' := [(a_fo, .inr (2, [.ref a_pi, .ref a_fol, .int fa, .int ff, .int fm])), (a_fol, .inl (cI, 17, .inl fl)), (a_pi, .inr (3, [.ref a_pix, .int pa, .int pd])), (a_pix, .inl (cI, 1024, .inl px))]) [0, 1, 2, 3] (by decide) rfl
    have hFc := va_free (wc := [(a_fo, .inr (2, [.ref a_pi, .ref a_fol, .int fa, .int ff, .int fm])), (a_fol, .inl (cI, 17, .inl fl)), (a_pi, .inr (3, [.ref a_pix, .int pa, .int pd])), (a_pix, .inl (cI, 1024, .inl px))]) hD hS hA [0, 1, 2, 3] rfl
    refine jm_calli (wr := []) (va_runV (As := [.int v2, .int v3, .int 1]) (rest := []) ⟨hx, hb, hml, hown, hts⟩ (c_X2_steep l D cI cB tt a_fo a_fol a_pi a_pix s.heap.size fa ff fm fl pa pd px v2 v3 1 h) (cwV 3 hts (jm_gV mw_443 mw_445 mw_10 mw_57 mw_446) rfl rfl rfl (by decide +kernel) ⟨Nat.le_of_ble_eq_true rfl, Nat.le_of_ble_eq_true rfl⟩) ⟨jm_blind, va_recv hK hPc (ci := 2) (q0 := 0) rfl rfl, jm_pre hK hE hS hPc hDc hFc _⟩ rfl rfl hl.1 rfl (lv_room (Nat.le_of_ble_eq_true rfl)) dX2_guess_95 ⟨Nat.zero_le _, Nat.zero_le _⟩) hS hP hD [0, 1, 2, 3] [] rfl rfl (by decide) (by decide) hFc (fun r_11 u_11 H_11 locs hw hP hD hS => ?_)
    have h := hw
    have hP : va_P D vwCl [(a_fo, .inr (2, [.ref a_pi, .ref a_fol, .int fa, .int ff, .int fm])), (a_fol, .inl (cI, 17, .inl fl)), (a_pi, .inr (3, [.ref a_pix, .int pa, .int pd])), (a_pix, .inl (cI, 1024, .inl px))] H_11 := hP.sub [0, 1, 2, 3] rfl
    have hD : va_D A [(a_fo, .inr (2, [.ref a_pi, .ref a_fol, .int fa, .int ff, .int fm])), (a_fol, .inl (cI, 17, .inl fl)), (a_pi, .inr (3, [.ref a_pix, .int pa, .int pd])), (a_pix, .inl (cI, 1024, .inl px))] := hD.sub [0, 1, 2, 3] (by decide) rfl
    exact hret r_11 () _ _ _ _ dX2_guess_98 (vp_nar_int _) h hP hD hS
  have h := h.2 c_10
  by_cases c_12 : v1 = 6
  · have h := h.1 c_12
    refine lv_tableIn (tgt := 99) hx hb dX2_guess_1 (by rw [c_12]; decide) (by rw [c_12]; decide) (off := 98) (by rw [c_12]; decide) (by decide) ?_
    refine lv_aload_n hx hb dX2_guess_99 rfl (lv_at hl 0 rfl) ?_
    refine lv_iload_n hx hb dX2_guess_100 rfl (lv_at hl 3 rfl) ?_
    refine lv_iload_n hx hb dX2_guess_101 rfl (lv_at hl 2 rfl) ?_
    refine lv_iconst (v := (-1)) hx hb dX2_guess_102 (by decide) ?_
    have hPc := hP.sub (ws' := [(a_fo, .inr (2, [.ref a_pi, .ref a_fol, .int fa, .int ff, .int fm])), (a_fol, .inl (cI, 17, .inl fl)), (a_pi, .inr (3, [.ref a_pix, .int pa, .int pd])), (a_pix, .inl (cI, 1024, .inl px))]) [0, 1, 2, 3] rfl
    have hDc := hD.sub (ws' := [(a_fo, .inr (2, [.ref a_pi, .ref a_fol, .int fa, .int ff, .int fm])), (a_fol, .inl (cI, 17, .inl fl)), (a_pi, .inr (3, [.ref a_pix, .int pa, .int pd])), (a_pix, .inl (cI, 1024, .inl px))]) [0, 1, 2, 3] (by decide) rfl
    have hFc := va_free (wc := [(a_fo, .inr (2, [.ref a_pi, .ref a_fol, .int fa, .int ff, .int fm])), (a_fol, .inl (cI, 17, .inl fl)), (a_pi, .inr (3, [.ref a_pix, .int pa, .int pd])), (a_pix, .inl (cI, 1024, .inl px))]) hD hS hA [0, 1, 2, 3] rfl
    refine jm_calli (wr := []) (va_runV (As := [.int v3, .int v2, .int (-1)]) (rest := []) ⟨hx, hb, hml, hown, hts⟩ (c_X2_steep l D cI cB tt a_fo a_fol a_pi a_pix s.heap.size fa ff fm fl pa pd px v3 v2 (-1) h) (cwV 3 hts (jm_gV mw_443 mw_445 mw_10 mw_57 mw_446) rfl rfl rfl (by decide +kernel) ⟨Nat.le_of_ble_eq_true rfl, Nat.le_of_ble_eq_true rfl⟩) ⟨jm_blind, va_recv hK hPc (ci := 2) (q0 := 0) rfl rfl, jm_pre hK hE hS hPc hDc hFc _⟩ rfl rfl hl.1 rfl (lv_room (Nat.le_of_ble_eq_true rfl)) dX2_guess_103 ⟨Nat.zero_le _, Nat.zero_le _⟩) hS hP hD [0, 1, 2, 3] [] rfl rfl (by decide) (by decide) hFc (fun r_13 u_13 H_13 locs hw hP hD hS => ?_)
    have h := hw
    have hP : va_P D vwCl [(a_fo, .inr (2, [.ref a_pi, .ref a_fol, .int fa, .int ff, .int fm])), (a_fol, .inl (cI, 17, .inl fl)), (a_pi, .inr (3, [.ref a_pix, .int pa, .int pd])), (a_pix, .inl (cI, 1024, .inl px))] H_13 := hP.sub [0, 1, 2, 3] rfl
    have hD : va_D A [(a_fo, .inr (2, [.ref a_pi, .ref a_fol, .int fa, .int ff, .int fm])), (a_fol, .inl (cI, 17, .inl fl)), (a_pi, .inr (3, [.ref a_pix, .int pa, .int pd])), (a_pix, .inl (cI, 1024, .inl px))] := hD.sub [0, 1, 2, 3] (by decide) rfl
    exact hret r_13 () _ _ _ _ dX2_guess_106 (vp_nar_int _) h hP hD hS
  have h := h.2 c_12
  by_cases c_14 : v1 = 7
  · have h := h.1 c_14
    refine lv_tableIn (tgt := 107) hx hb dX2_guess_1 (by rw [c_14]; decide) (by rw [c_14]; decide) (off := 106) (by rw [c_14]; decide) (by decide) ?_
    refine lv_aload_n hx hb dX2_guess_107 rfl (lv_at hl 0 rfl) ?_
    refine lv_iload_n hx hb dX2_guess_108 rfl (lv_at hl 2 rfl) ?_
    refine lv_iload_n hx hb dX2_guess_109 rfl (lv_at hl 3 rfl) ?_
    refine lv_iconst (v := 1) hx hb dX2_guess_110 (by decide) ?_
    have hPc := hP.sub (ws' := [(a_fo, .inr (2, [.ref a_pi, .ref a_fol, .int fa, .int ff, .int fm])), (a_fol, .inl (cI, 17, .inl fl)), (a_pi, .inr (3, [.ref a_pix, .int pa, .int pd])), (a_pix, .inl (cI, 1024, .inl px))]) [0, 1, 2, 3] rfl
    have hDc := hD.sub (ws' := [(a_fo, .inr (2, [.ref a_pi, .ref a_fol, .int fa, .int ff, .int fm])), (a_fol, .inl (cI, 17, .inl fl)), (a_pi, .inr (3, [.ref a_pix, .int pa, .int pd])), (a_pix, .inl (cI, 1024, .inl px))]) [0, 1, 2, 3] (by decide) rfl
    have hFc := va_free (wc := [(a_fo, .inr (2, [.ref a_pi, .ref a_fol, .int fa, .int ff, .int fm])), (a_fol, .inl (cI, 17, .inl fl)), (a_pi, .inr (3, [.ref a_pix, .int pa, .int pd])), (a_pix, .inl (cI, 1024, .inl px))]) hD hS hA [0, 1, 2, 3] rfl
    refine jm_calli (wr := []) (va_runV (As := [.int v2, .int v3, .int 1]) (rest := []) ⟨hx, hb, hml, hown, hts⟩ (c_X2_leaning l D cI cB tt a_fo a_fol a_pi a_pix s.heap.size fa ff fm fl pa pd px v2 v3 1 h) (cwV 3 hts (jm_gV mw_451 mw_453 mw_12 mw_57 mw_454) rfl rfl rfl (by decide +kernel) ⟨Nat.le_of_ble_eq_true rfl, Nat.le_of_ble_eq_true rfl⟩) ⟨jm_blind, va_recv hK hPc (ci := 2) (q0 := 0) rfl rfl, jm_pre hK hE hS hPc hDc hFc _⟩ rfl rfl hl.1 rfl (lv_room (Nat.le_of_ble_eq_true rfl)) dX2_guess_111 ⟨Nat.zero_le _, Nat.zero_le _⟩) hS hP hD [0, 1, 2, 3] [] rfl rfl (by decide) (by decide) hFc (fun r_15 u_15 H_15 locs hw hP hD hS => ?_)
    have h := hw
    have hP : va_P D vwCl [(a_fo, .inr (2, [.ref a_pi, .ref a_fol, .int fa, .int ff, .int fm])), (a_fol, .inl (cI, 17, .inl fl)), (a_pi, .inr (3, [.ref a_pix, .int pa, .int pd])), (a_pix, .inl (cI, 1024, .inl px))] H_15 := hP.sub [0, 1, 2, 3] rfl
    have hD : va_D A [(a_fo, .inr (2, [.ref a_pi, .ref a_fol, .int fa, .int ff, .int fm])), (a_fol, .inl (cI, 17, .inl fl)), (a_pi, .inr (3, [.ref a_pix, .int pa, .int pd])), (a_pix, .inl (cI, 1024, .inl px))] := hD.sub [0, 1, 2, 3] (by decide) rfl
    exact hret r_15 () _ _ _ _ dX2_guess_114 (vp_nar_int _) h hP hD hS
  have h := h.2 c_14
  have nc_1 : v1.toInt ≠ 0 := jm_sw c_1
  have nc_3 : v1.toInt ≠ 1 := jm_sw c_3
  have nc_5 : v1.toInt ≠ 2 := jm_sw c_5
  have nc_6 : v1.toInt ≠ 3 := jm_sw c_6
  have nc_8 : v1.toInt ≠ 4 := jm_sw c_8
  have nc_10 : v1.toInt ≠ 5 := jm_sw c_10
  have nc_12 : v1.toInt ≠ 6 := jm_sw c_12
  have nc_14 : v1.toInt ≠ 7 := jm_sw c_14
  refine lv_tableOut (tgt := 115) hx hb dX2_guess_1 (by omega) (by decide) ?_
  refine lv_aload_n hx hb dX2_guess_115 rfl (lv_at hl 0 rfl) ?_
  refine lv_iload_n hx hb dX2_guess_116 rfl (lv_at hl 3 rfl) ?_
  refine lv_iload_n hx hb dX2_guess_117 rfl (lv_at hl 2 rfl) ?_
  refine lv_iconst (v := (-1)) hx hb dX2_guess_118 (by decide) ?_
  have hPc := hP.sub (ws' := [(a_fo, .inr (2, [.ref a_pi, .ref a_fol, .int fa, .int ff, .int fm])), (a_fol, .inl (cI, 17, .inl fl)), (a_pi, .inr (3, [.ref a_pix, .int pa, .int pd])), (a_pix, .inl (cI, 1024, .inl px))]) [0, 1, 2, 3] rfl
  have hDc := hD.sub (ws' := [(a_fo, .inr (2, [.ref a_pi, .ref a_fol, .int fa, .int ff, .int fm])), (a_fol, .inl (cI, 17, .inl fl)), (a_pi, .inr (3, [.ref a_pix, .int pa, .int pd])), (a_pix, .inl (cI, 1024, .inl px))]) [0, 1, 2, 3] (by decide) rfl
  have hFc := va_free (wc := [(a_fo, .inr (2, [.ref a_pi, .ref a_fol, .int fa, .int ff, .int fm])), (a_fol, .inl (cI, 17, .inl fl)), (a_pi, .inr (3, [.ref a_pix, .int pa, .int pd])), (a_pix, .inl (cI, 1024, .inl px))]) hD hS hA [0, 1, 2, 3] rfl
  refine jm_calli (wr := []) (va_runV (As := [.int v3, .int v2, .int (-1)]) (rest := []) ⟨hx, hb, hml, hown, hts⟩ (c_X2_leaning l D cI cB tt a_fo a_fol a_pi a_pix s.heap.size fa ff fm fl pa pd px v3 v2 (-1) h) (cwV 3 hts (jm_gV mw_451 mw_453 mw_12 mw_57 mw_454) rfl rfl rfl (by decide +kernel) ⟨Nat.le_of_ble_eq_true rfl, Nat.le_of_ble_eq_true rfl⟩) ⟨jm_blind, va_recv hK hPc (ci := 2) (q0 := 0) rfl rfl, jm_pre hK hE hS hPc hDc hFc _⟩ rfl rfl hl.1 rfl (lv_room (Nat.le_of_ble_eq_true rfl)) dX2_guess_119 ⟨Nat.zero_le _, Nat.zero_le _⟩) hS hP hD [0, 1, 2, 3] [] rfl rfl (by decide) (by decide) hFc (fun r_16 u_16 H_16 locs hw hP hD hS => ?_)
  have h := hw
  have hP : va_P D vwCl [(a_fo, .inr (2, [.ref a_pi, .ref a_fol, .int fa, .int ff, .int fm])), (a_fol, .inl (cI, 17, .inl fl)), (a_pi, .inr (3, [.ref a_pix, .int pa, .int pd])), (a_pix, .inl (cI, 1024, .inl px))] H_16 := hP.sub [0, 1, 2, 3] rfl
  have hD : va_D A [(a_fo, .inr (2, [.ref a_pi, .ref a_fol, .int fa, .int ff, .int fm])), (a_fol, .inl (cI, 17, .inl fl)), (a_pi, .inr (3, [.ref a_pix, .int pa, .int pd])), (a_pix, .inl (cI, 1024, .inl px))] := hD.sub [0, 1, 2, 3] (by decide) rfl
  exact hret r_16 () _ _ _ _ dX2_guess_122 (vp_nar_int _) h hP hD hS
