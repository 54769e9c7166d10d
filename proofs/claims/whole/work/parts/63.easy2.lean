/-! the other calls that need no long proof -/
theorem bp_b8 (x : Int32) : x.toInt8.toInt32 &&& 255 = x &&& 255 := by
  refine b_ext (fun i hi => ?_)
  rw [b_and, b_and, b_255]
  by_cases h : i < 8
  · have : bt x.toInt8.toInt32 i = bt x i := by
      show (x.toInt8.toInt32).toBitVec.getLsbD i = x.toBitVec.getLsbD i
      rw [Int8.toBitVec_toInt32, Int32.toBitVec_toInt8, BitVec.getLsbD_signExtend, if_pos h, BitVec.getLsbD_signExtend, if_pos hi]
      simp [hi, h]
    rw [this]
  · simp [h]
theorem vp_nb (x : Int32) : vp_nar .byte x = x.toInt8.toInt32 := rfl
theorem pOk_and {x : Int32} (h : pOk x) : x &&& 255 = x := by
  obtain ⟨n, hn, rfl⟩ := h
  have := pk_andN (n := n) (by omega) (m := 255) 8 (by decide)
  rw [this]; congr 1; omega
theorem jupb_nI (f : Nat → Int32) (x : Int32) {n : Nat} (h : n < 2147483648 := by omega) : jupb f (nI n) x = upd f n (x.toInt8.toInt32) := by
  show upd f _ _ = _
  rw [nI_clamp (by omega)]
  rfl
theorem i8_idem (x : Int32) : (x.toInt8.toInt32).toInt8.toInt32 = x.toInt8.toInt32 := by
  rw [Int8.toInt8_toInt32]
theorem s_place {rp mpl mth : Int32} {C : Int32 → Int32 → Int32 → Prop} (h : rp = mpl) (hC : ∀ r r' mth', r = r' → C r r' mth') : wp_X9_place rp (fun r => wp_X10_place mpl mth (fun r' mth' => C r r' mth')) := by
  unfold wp_X9_place wp_X5_faultPlace wp_X10_place
  exact hC _ _ _ h
theorem lt0_iff {x : Int32} : x < 0 ↔ ¬ 0 ≤ x := by
  rw [Int32.lt_iff_toInt_lt, Int32.le_iff_toInt_le]; omega
theorem s_end {pa pd : Int32} {px : Nat → Int32} {sc : Int32} {sb : Nat → Int32} {rp la ld lq lz : Int32} {lm lv : Nat → Int32} {ma md mq mz msz mpl mth : Int32} {mpic mmod mcoe mby : Nat → Int32} {v1 : Int32}
    {C : Int32 → Int32 → Int32 → Int32 → Prop} {Vw : Prop → Prop} (hV : ∀ P : Prop, P → Vw P) (hR : Rel pa pd px sc sb rp la ld lq lz lm lv ma md mq mz msz mpl mpic mmod mcoe mby)
    (hC : ∀ r sc' msz' mth', mth' = r → Rel pa pd px sc' sb rp la ld lq lz lm lv ma md mq mz msz' mpl mpic mmod mcoe mby → C r sc' msz' mth') :
    wp_L_end sc v1 (fun r sc' => Vw (wp_X10_end msz mth v1 (fun msz' mth' => C r sc' msz' mth'))) := by
  obtain ⟨a, d, h1, h2, h3, h4, ⟨c, hc, rfl, rfl, h5⟩, h6⟩ := id hR
  unfold wp_L_end wp_X9_end wp_X10_end jn1 jn0
  refine t_X9_isWithin (fun c1 => ⟨fun c => absurd c (by decide), fun _ => hV _ ?_⟩) (fun c1 => ⟨fun _ => hV _ ?_, fun c => absurd rfl c⟩)
  · obtain ⟨n, hn, rfl⟩ := in_0 (by omega) c1
    refine ⟨fun c => absurd c1.1 (lt0_iff.mp c), fun _ => ⟨fun _ => t_fails0 ⟨fun _ => hC 0 _ _ 0 rfl ⟨a, d, h1, h2, h3, h4, ⟨n, by omega, rfl, rfl, fun i hi => h5 i (by omega)⟩, h6⟩, fun c => absurd rfl c⟩, fun c => absurd c1.2 c⟩⟩
  · refine ⟨fun _ => t_fails1 ⟨fun c => absurd c (by decide), fun _ => hC 1 _ _ 1 rfl hR⟩, fun c2 => ⟨fun c3 => absurd ⟨Classical.not_not.mp (fun e => c2 (lt0_iff.mpr e)), c3⟩ c1, fun _ => t_fails1 ⟨fun c => absurd c (by decide), fun _ => hC 1 _ _ 1 rfl hR⟩⟩⟩
/-- bytes that are kept, within their count or not -/
theorem by_ix {c : Nat} (hc : c ≤ 8000) (v : Int32) : (0 ≤ v ∧ v ≤ nI c - 1) ↔ ∃ i : Nat, i < c ∧ v = nI i := by
  rcases Nat.eq_zero_or_pos c with h | h
  · subst h
    refine ⟨fun e => absurd e (by have : nI 0 - 1 = (-1 : Int32) := by decide
                                  rw [this]; exact t_neg1), fun ⟨i, hi, _⟩ => absurd hi (by omega)⟩
  · rw [nI_m1]
    constructor
    · intro e
      obtain ⟨i, hi, e⟩ := in_0 (by omega) e
      exact ⟨i, by omega, e⟩
    · rintro ⟨i, hi, rfl⟩
      exact ⟨nI_pos' (by omega), nI_le (by omega) (by omega)⟩
theorem nn_ix {c : Nat} (hc : c ≤ 8000) {v : Int32} (h : ¬ ∃ i : Nat, i < c ∧ v = nI i) (h0 : ¬ v < 0) : nI c ≤ v := by
  rcases pk_ix v (n := c) (by omega) with h1 | h1 | h1
  · exact absurd h1 h0
  · exact h1
  · exact absurd h1 h
theorem not_lt_le {x y : Int32} : ¬ x < y ↔ y ≤ x := by
  rw [Int32.lt_iff_toInt_lt, Int32.le_iff_toInt_le]; omega
theorem s_alter {pa pd : Int32} {px : Nat → Int32} {sc : Int32} {sb : Nat → Int32} {lo : Nat → Int64} {rp la ld lq lz : Int32} {lm lv : Nat → Int32} {ma md mq mz msz mpl mth : Int32} {mpic mmod mcoe mby : Nat → Int32} {v1 v2 : Int32}
    {C : Int32 → (Nat → Int32) → (Nat → Int64) → Int32 → Int32 → (Nat → Int32) → Prop} {Vw : Prop → Prop} (hV : ∀ P : Prop, P → Vw P) (hR : Rel pa pd px sc sb rp la ld lq lz lm lv ma md mq mz msz mpl mpic mmod mcoe mby)
    (hC : ∀ r sb' lo' b mth' mby', mth' = r → (r = 0 → lo' (0 : Int32).toNatClampNeg = b.toInt64) → Rel pa pd px sc sb' rp la ld lq lz lm lv ma md mq mz msz mpl mpic mmod mcoe mby' → C r sb' lo' b mth' mby') :
    wp_L_alter sc sb lo v1 v2 (fun r sb' lo' => Vw (wp_X10_alter msz mth mby v1 v2 (fun b mth' mby' => C r sb' lo' b mth' mby'))) := by
  obtain ⟨a, d, h1, h2, h3, h4, ⟨c, hc, rfl, rfl, h5⟩, h6⟩ := id hR
  unfold wp_L_alter wp_X9_alter wp_X10_alter wp_X7_get wp_X7_set jn1 jn0
  refine t_X9_isWithin (fun c1 => ⟨fun c => absurd c (by decide), fun _ => ?_⟩) (fun c1 => ⟨fun _ => hV _ ?_, fun c => absurd rfl c⟩)
  · obtain ⟨i, hi, rfl⟩ := (by_ix hc v1).mp c1
    refine ⟨nI_in', nI_in', hV _ ⟨fun c => absurd c (nI_pos (by omega)), fun _ => ⟨fun _ => t_fails0 ⟨fun _ => ⟨nI_in', fun x hx => ⟨nI_in', ?_⟩⟩, fun c => absurd rfl c⟩, fun c => absurd (nI_lt hi (by omega)) c⟩⟩⟩
    rw [jupb_nI, i8_idem, jup_nI]
    refine hC 0 _ _ _ 0 _ rfl (fun _ => ?_) ⟨a, d, h1, h2, h3, h4, ⟨c, hc, rfl, rfl, fun j hj => ?_⟩, h6⟩
    · rw [hx, jat_nI, jat_nI, h5 i hi]
      show vp_updL lo _ _ _ = _
      exact pk_uLs
    · rw [upd_if, upd_if]
      split
      · exact bp_b8 v2
      · exact h5 j hj
  · have hf : ∀ K : Int32 → Int32 → Prop, K 1 1 → wp_X10_fails mth 1 1 K := fun K h => t_fails1 h
    refine ⟨fun _ => hf _ ⟨fun c => absurd c (by decide), fun _ => hC 1 _ _ _ 1 _ rfl (fun e => absurd e (by decide)) hR⟩, fun c2 => ⟨fun c3 => ?_, fun _ => hf _ ⟨fun c => absurd c (by decide), fun _ => hC 1 _ _ _ 1 _ rfl (fun e => absurd e (by decide)) hR⟩⟩⟩
    have := nn_ix hc (fun e => c1 ((by_ix hc v1).mpr e)) c2
    exact absurd c3 (not_lt_le.mpr this)
theorem s_bits {pa pd : Int32} {px : Nat → Int32} {sc : Int32} {sb : Nat → Int32} {rp la ld lq lz : Int32} {lm lv : Nat → Int32} {ma md mq mz msz mpl mth : Int32} {mpic mmod mcoe mby : Nat → Int32} {v1 : Int32}
    {C : Int32 → Int32 → Int32 → Prop} {Vw : Prop → Prop} (hV : ∀ P : Prop, P → Vw P) (hR : Rel pa pd px sc sb rp la ld lq lz lm lv ma md mq mz msz mpl mpic mmod mcoe mby)
    (hC : ∀ r r' mth', r = r' → C r r' mth') : wp_X9_bits sc sb v1 (fun r => Vw (wp_X10_bits msz mth mby v1 (fun r' mth' => C r r' mth'))) := by
  obtain ⟨a, d, h1, h2, h3, h4, ⟨c, hc, rfl, rfl, h5⟩, h6⟩ := hR
  unfold wp_X9_bits wp_X10_bits wp_X7_get
  refine t_X9_isWithin (fun c1 => ⟨fun c => absurd c (by decide), fun _ => ?_⟩) (fun c1 => ⟨fun _ => hV _ ?_, fun c => absurd rfl c⟩)
  · obtain ⟨i, hi, rfl⟩ := (by_ix hc v1).mp c1
    refine ⟨nI_in', hV _ ⟨fun c => absurd c (nI_pos (by omega)), fun _ => ⟨fun c => absurd c (nI_ge hi (by omega)), fun _ => ⟨nI_in', hC _ _ _ ?_⟩⟩⟩⟩
    rw [jat_nI, jat_nI, h5 i hi]
  · refine ⟨fun _ => hC _ _ _ rfl, fun c2 => ⟨fun _ => hC _ _ _ rfl, fun c3 => ?_⟩⟩
    exact absurd (nn_ix hc (fun e => c1 ((by_ix hc v1).mpr e)) c2) c3
theorem t_X9_feed_25 {c : Nat} {v1 : Int32} {K : Int32 → Int32 → (Nat → Int32) → Prop} {X : Int32 → Int32 → (Nat → Int32) → Prop} {sb : Nat → Int32} (hc : c + 4 ≤ 8000) (hX : ∀ v, X v (nI (c + 4)) (lay4 sb c 4 (fun k => (by4 v1 k).toInt8.toInt32))) :
    ∀ (d i n : Nat), i + d = 4 → d < n → wl_X9_feed_25 v1 K X n (nI i) (nI (c + i)) (lay4 sb c i (fun k => (by4 v1 k).toInt8.toInt32)) := by
  intro d
  induction d with
  | zero =>
    intro i n hi hn
    obtain ⟨n, rfl⟩ : ∃ k, n = k + 1 := ⟨n - 1, by omega⟩
    rw [wl_X9_feed_25]
    have hi : i = 4 := by omega
    subst hi
    exact ⟨fun _ => hX _, fun c => absurd (by decide) c⟩
  | succ d ih =>
    intro i n hi hn
    obtain ⟨n, rfl⟩ : ∃ k, n = k + 1 := ⟨n - 1, by omega⟩
    rw [wl_X9_feed_25]
    refine ⟨fun c => absurd c (nI_ge (a := i) (b := 4) (by omega) (by decide)), fun _ => ?_⟩
    unfold wp_X9_byteOf wp_X7_add wp_X7_set
    rw [nI_24 (by omega), by4_u _ (by omega)]
    refine ⟨fun e => absurd e (nI_ge (a := c + i) (b := 8000) (by omega) (by decide)), fun _ => ⟨nI_in', fun x hx => ?_⟩⟩
    rw [hx, nI_1, nI_1, jupb_nI, i8_idem, lay4_s (g := fun k => (by4 v1 k).toInt8.toInt32)]
    exact ih (i + 1) n (by omega) (by omega)
theorem t_X10_feed_29 {c : Nat} {v1 : Int32} {K : Int32 → Int32 → Int32 → (Nat → Int32) → Prop} {X : Int32 → (Nat → Int32) → Prop} {mby : Nat → Int32} (hc : c + 4 ≤ 8000) (hX : ∀ v, X v (lay4 mby c 4 (by4 v1))) :
    ∀ (d i n : Nat), i + d = 4 → d < n → wl_X10_feed_29 v1 (nI c) K X n (nI i) (lay4 mby c i (by4 v1)) := by
  intro d
  induction d with
  | zero =>
    intro i n hi hn
    obtain ⟨n, rfl⟩ : ∃ k, n = k + 1 := ⟨n - 1, by omega⟩
    rw [wl_X10_feed_29]
    have hi : i = 4 := by omega
    subst hi
    exact ⟨fun _ => hX _, fun c => absurd (by decide) c⟩
  | succ d ih =>
    intro i n hi hn
    obtain ⟨n, rfl⟩ : ∃ k, n = k + 1 := ⟨n - 1, by omega⟩
    rw [wl_X10_feed_29]
    refine ⟨fun c => absurd c (nI_ge (a := i) (b := 4) (by omega) (by decide)), fun _ => ?_⟩
    rw [nI_24 (by omega), nI_add]
    refine ⟨nI_in', fun x hx => ?_⟩
    rw [hx, nI_1, jup_nI]
    have e2 := lay4_s mby c i (by4 v1)
    unfold by4 at e2 ⊢
    rw [e2]
    exact ih (i + 1) n (by omega) (by omega)
theorem s_feed {pa pd : Int32} {px : Nat → Int32} {sc : Int32} {sb : Nat → Int32} {lo : Nat → Int64} {rp la ld lq lz : Int32} {lm lv : Nat → Int32} {ma md mq mz msz mpl mth : Int32} {mpic mmod mcoe mby : Nat → Int32} {v1 : Int32}
    {C : Int32 → Int32 → (Nat → Int32) → (Nat → Int64) → Int32 → Int32 → Int32 → (Nat → Int32) → Prop} {Vw : Prop → Prop} (hV : ∀ P : Prop, P → Vw P) (hR : Rel pa pd px sc sb rp la ld lq lz lm lv ma md mq mz msz mpl mpic mmod mcoe mby)
    (hC : ∀ r sc' sb' lo' b msz' mth' mby', mth' = r → (r = 0 → lo' (0 : Int32).toNatClampNeg = b.toInt64) → Rel pa pd px sc' sb' rp la ld lq lz lm lv ma md mq mz msz' mpl mpic mmod mcoe mby' → C r sc' sb' lo' b msz' mth' mby') :
    wp_L_feed sc sb lo v1 (fun r sc' sb' lo' => Vw (wp_X10_feed msz mth mby v1 (fun b msz' mth' mby' => C r sc' sb' lo' b msz' mth' mby'))) := by
  obtain ⟨a, d, h1, h2, h3, h4, ⟨c, hc, rfl, rfl, h5⟩, h6⟩ := id hR
  unfold wp_L_feed wp_X9_feed wp_X10_feed jn1
  have e4 : nI c + 4 = nI (c + 4) := nI_add c 4
  have e8 : (8000 : Int32) = nI 8000 := rfl
  rw [e4, e8]
  by_cases h8 : c + 4 ≤ 8000
  · refine ⟨fun _ => ⟨5, ?_⟩, fun e => absurd (nI_le h8 (by decide)) e⟩
    have hm : ∀ (sc' : Int32) (sb' : Nat → Int32), sc' = nI (c + 4) → sb' = lay4 sb c 4 (fun k => (by4 v1 k).toInt8.toInt32) → ∀ lo' : Nat → Int64, lo' (0 : Int32).toNatClampNeg = (nI (c + 4)).toInt64 → ((nI (c + 4) ≤ nI 8000 → wp_X10_fails mth 0 1 (fun (r_2 : Int32) (mth_2 : Int32) => ((r_2 = 0 → ∃ k : Nat, wl_X10_feed_29 v1 (nI c) (fun b msz' mth' mby' => C 0 sc' sb' lo' b msz' mth' mby') (fun (v2_8 : Int32) (mby_8 : (Nat → Int32)) => C 0 sc' sb' lo' (nI (c + 4)) (nI (c + 4)) mth_2 mby_8) k 0 mby) ∧ (¬ r_2 = 0 → C 0 sc' sb' lo' 0 (nI c) mth_2 mby)))) ∧ (¬ nI (c + 4) ≤ nI 8000 → wp_X10_fails mth 1 1 (fun (r_2 : Int32) (mth_2 : Int32) => ((r_2 = 0 → ∃ k : Nat, wl_X10_feed_29 v1 (nI c) (fun b msz' mth' mby' => C 0 sc' sb' lo' b msz' mth' mby') (fun (v2_8 : Int32) (mby_8 : (Nat → Int32)) => C 0 sc' sb' lo' (nI (c + 4)) (nI (c + 4)) mth_2 mby_8) k 0 mby) ∧ (¬ r_2 = 0 → C 0 sc' sb' lo' 0 (nI c) mth_2 mby))))) := by
      intro sc' sb' es eb lo' el
      refine ⟨fun _ => t_fails0 ⟨fun _ => ⟨5, ?_⟩, fun e => absurd rfl e⟩, fun e => absurd (nI_le h8 (by decide)) e⟩
      have key := t_X10_feed_29 (c := c) (v1 := v1) (mby := mby) (K := fun b msz' mth' mby' => C 0 sc' sb' lo' b msz' mth' mby') (X := fun _ mby' => C 0 sc' sb' lo' (nI (c + 4)) (nI (c + 4)) 0 mby') h8 (fun _ => ?_) 4 0 5 rfl (by decide)
      · rw [lay4_0] at key
        exact key
      · subst es eb
        refine hC 0 _ _ _ _ _ 0 _ rfl (fun _ => el) ⟨a, d, h1, h2, h3, h4, ⟨c + 4, h8, rfl, rfl, fun j hj => ?_⟩, h6⟩
        unfold lay4
        split
        · rw [bp_b8, pOk_and (by4_ok _ _)]
        · exact h5 j (by omega)
    have key := t_X9_feed_25 (c := c) (v1 := v1) (sb := sb) (K := fun r' sc' sb' => Vw ((nI (c + 4) ≤ nI 8000 → wp_X10_fails mth 0 1 (fun (r_2 : Int32) (mth_2 : Int32) => ((r_2 = 0 → ∃ k : Nat, wl_X10_feed_29 v1 (nI c) (fun b msz' mth' mby' => C 0 sc' sb' (vp_updL lo (0 : Int32).toNatClampNeg r'.toInt64) b msz' mth' mby') (fun (v2_8 : Int32) (mby_8 : (Nat → Int32)) => C 0 sc' sb' (vp_updL lo (0 : Int32).toNatClampNeg r'.toInt64) (nI (c + 4)) (nI (c + 4)) mth_2 mby_8) k 0 mby) ∧ (¬ r_2 = 0 → C 0 sc' sb' (vp_updL lo (0 : Int32).toNatClampNeg r'.toInt64) 0 (nI c) mth_2 mby)))) ∧ (¬ nI (c + 4) ≤ nI 8000 → wp_X10_fails mth 1 1 (fun (r_2 : Int32) (mth_2 : Int32) => ((r_2 = 0 → ∃ k : Nat, wl_X10_feed_29 v1 (nI c) (fun b msz' mth' mby' => C 0 sc' sb' (vp_updL lo (0 : Int32).toNatClampNeg r'.toInt64) b msz' mth' mby') (fun (v2_8 : Int32) (mby_8 : (Nat → Int32)) => C 0 sc' sb' (vp_updL lo (0 : Int32).toNatClampNeg r'.toInt64) (nI (c + 4)) (nI (c + 4)) mth_2 mby_8) k 0 mby) ∧ (¬ r_2 = 0 → C 0 sc' sb' (vp_updL lo (0 : Int32).toNatClampNeg r'.toInt64) 0 (nI c) mth_2 mby)))))) (X := fun _ sc' sb' => Vw ((nI (c + 4) ≤ nI 8000 → wp_X10_fails mth 0 1 (fun (r_2 : Int32) (mth_2 : Int32) => ((r_2 = 0 → ∃ k : Nat, wl_X10_feed_29 v1 (nI c) (fun b msz' mth' mby' => C 0 sc' sb' (vp_updL lo (0 : Int32).toNatClampNeg sc'.toInt64) b msz' mth' mby') (fun (v2_8 : Int32) (mby_8 : (Nat → Int32)) => C 0 sc' sb' (vp_updL lo (0 : Int32).toNatClampNeg sc'.toInt64) (nI (c + 4)) (nI (c + 4)) mth_2 mby_8) k 0 mby) ∧ (¬ r_2 = 0 → C 0 sc' sb' (vp_updL lo (0 : Int32).toNatClampNeg sc'.toInt64) 0 (nI c) mth_2 mby)))) ∧ (¬ nI (c + 4) ≤ nI 8000 → wp_X10_fails mth 1 1 (fun (r_2 : Int32) (mth_2 : Int32) => ((r_2 = 0 → ∃ k : Nat, wl_X10_feed_29 v1 (nI c) (fun b msz' mth' mby' => C 0 sc' sb' (vp_updL lo (0 : Int32).toNatClampNeg sc'.toInt64) b msz' mth' mby') (fun (v2_8 : Int32) (mby_8 : (Nat → Int32)) => C 0 sc' sb' (vp_updL lo (0 : Int32).toNatClampNeg sc'.toInt64) (nI (c + 4)) (nI (c + 4)) mth_2 mby_8) k 0 mby) ∧ (¬ r_2 = 0 → C 0 sc' sb' (vp_updL lo (0 : Int32).toNatClampNeg sc'.toInt64) 0 (nI c) mth_2 mby)))))) h8 (fun _ => hV _ (hm _ _ rfl rfl _ pk_uLs)) 4 0 5 rfl (by decide)
    rw [lay4_0] at key
    exact key
  · refine ⟨fun e => absurd e (nI_ge (by omega) (by omega)), fun _ => hV _ ⟨fun e => absurd e (nI_ge (by omega) (by omega)), fun _ => t_fails1 ⟨fun e => absurd e (by decide), fun _ => hC 1 _ _ _ _ _ 1 _ rfl (fun e => absurd e (by decide)) hR⟩⟩⟩
theorem blk_ix {a d : Nat} (h : 1 ≤ a ∧ a ≤ 8 ∧ 1 ≤ d ∧ d ≤ 8) (v : Int32) : (0 ≤ v ∧ v ≤ (nI a * nI d) - 1) ↔ ∃ i : Nat, i < a * d ∧ v = nI i := by
  have had := ad_le h
  rw [pk_mul]
  exact by_ix (by omega) v
theorem in_m1_15 {v : Int32} (h : -1 ≤ v ∧ v ≤ 15) : v = -1 ∨ ∃ i : Nat, i < 16 ∧ v = nI i := by
  have h1 := Int32.le_iff_toInt_le.mp h.1
  have h2 := Int32.le_iff_toInt_le.mp h.2
  have e1 : (-1 : Int32).toInt = -1 := by decide
  have e2 : (15 : Int32).toInt = 15 := by decide
  by_cases e : v.toInt = -1
  · exact Or.inl (Int32.toInt_inj.mp (e.trans e1.symm))
  · refine Or.inr ⟨v.toInt.toNat, by omega, ?_⟩
    rw [zI_nat, Int.toNat_of_nonneg (by omega)]
    exact zI_of v
theorem nI_ne_m1 {n : Nat} (h : n < 2147483648) : ¬ nI n = -1 := fun e => by
  have e1 := congrArg Int32.toInt e
  rw [nI_toInt (by omega)] at e1
  have e2 : (-1 : Int32).toInt = -1 := by decide
  omega
theorem s_block {pa pd : Int32} {px : Nat → Int32} {sc : Int32} {sb : Nat → Int32} {lo : Nat → Int64} {rp la ld lq lz : Int32} {lm lv : Nat → Int32} {ma md mq mz msz mpl mth : Int32} {mpic mmod mcoe mby : Nat → Int32} {v1 v2 : Int32}
    {C : Int32 → (Nat → Int64) → Int32 → Int32 → Prop} {Vw : Prop → Prop} (hV : ∀ P : Prop, P → Vw P) (hR : Rel pa pd px sc sb rp la ld lq lz lm lv ma md mq mz msz mpl mpic mmod mcoe mby)
    (hC : ∀ r lo' b mth', mth' = r → (r = 0 → lo' (0 : Int32).toNatClampNeg = b.toInt64) → C r lo' b mth') :
    wp_L_block la ld lm lv lo v1 v2 (fun r lo' => Vw (wp_X10_block ma md mth mmod mcoe v1 v2 (fun b mth' => C r lo' b mth'))) := by
  obtain ⟨a, d, ⟨hs, rfl, rfl, rfl, rfl, rfl, rfl⟩, h2, ⟨h3, h3'⟩, -⟩ := hR
  have had := ad_le hs
  unfold wp_L_block wp_X9_block wp_X4_blocks wp_X10_block jn1 jn0
  have hf : ∀ K : Int32 → Int32 → Prop, K 1 1 → wp_X10_fails mth 1 1 K := fun K h => t_fails1 h
  have hx : ∀ b : Int32, C 1 lo b 1 := fun b => hC 1 lo b 1 rfl (fun e => absurd e (by decide))
  refine t_X9_isWithin (fun c1 => ⟨fun c => absurd c (by decide), fun _ => t_X9_isWithin (fun c2 => ⟨fun c => absurd c (by decide), fun _ => ?_⟩) (fun c2 => ⟨fun _ => hV _ ?_, fun c => absurd rfl c⟩)⟩) (fun c1 => ⟨fun _ => hV _ ?_, fun c => absurd rfl c⟩)
  · obtain ⟨i, hi, rfl⟩ := (blk_ix hs v1).mp c1
    rcases in_m1_15 c2 with rfl | ⟨j, hj, rfl⟩
    · refine ⟨fun _ => ⟨nI_in', hV _ (t_X10_within (fun _ => ⟨fun c => absurd c (by decide), fun _ => t_X10_within (fun _ => ⟨fun c => absurd c (by decide), fun _ => t_fails0 ⟨fun _ => ⟨fun _ => ⟨nI_in', hC 0 _ _ 0 rfl (fun _ => ?_)⟩, fun c => absurd rfl c⟩, fun c => absurd rfl c⟩⟩) (fun c => absurd c2 c)⟩) (fun c => absurd c1 c))⟩, fun c => absurd rfl c⟩
      rw [jat_nI, jat_nI, h3 i hi]
      exact pk_uLs
    · have e : (16 * nI i) + nI j = nI (16 * i + j) := by
        show nI 16 * nI i + nI j = _
        rw [pk_mul, nI_add]
      rw [e]
      refine ⟨fun c => absurd c (nI_ne_m1 (by omega)), fun _ => ⟨nI_in', hV _ (t_X10_within (fun _ => ⟨fun c => absurd c (by decide), fun _ => t_X10_within (fun _ => ⟨fun c => absurd c (by decide), fun _ => t_fails0 ⟨fun _ => ⟨fun c => absurd c (nI_ne_m1 (by omega)), fun _ => ⟨nI_in', hC 0 _ _ 0 rfl (fun _ => ?_)⟩⟩, fun c => absurd rfl c⟩⟩) (fun c => absurd c2 c)⟩) (fun c => absurd c1 c))⟩⟩
      rw [jat_nI, jat_nI, h3' (16 * i + j) (by omega)]
      exact pk_uLs
  · exact t_X10_within (fun _ => ⟨fun c => absurd c (by decide), fun _ => t_X10_within (fun c => absurd c c2) (fun _ => ⟨fun _ => hf _ ⟨fun c => absurd c (by decide), fun _ => hx _⟩, fun c => absurd rfl c⟩)⟩) (fun c => absurd c1 c)
  · exact t_X10_within (fun c => absurd c c1) (fun _ => ⟨fun _ => hf _ ⟨fun c => absurd c (by decide), fun _ => hx _⟩, fun c => absurd rfl c⟩)
theorem s_about {pa pd : Int32} {px : Nat → Int32} {sc : Int32} {sb : Nat → Int32} {lo : Nat → Int64} {rp la ld lq lz : Int32} {lm lv : Nat → Int32} {ma md mq mz msz mpl mth : Int32} {mpic mmod mcoe mby : Nat → Int32} {v1 : Int32}
    {C : Int32 → (Nat → Int64) → Int32 → Int32 → Prop} {Vw : Prop → Prop} (hV : ∀ P : Prop, P → Vw P) (hR : Rel pa pd px sc sb rp la ld lq lz lm lv ma md mq mz msz mpl mpic mmod mcoe mby)
    (hC : ∀ r lo' b mth', mth' = r → (r = 0 → lo' (0 : Int32).toNatClampNeg = b.toInt64) → C r lo' b mth') :
    wp_L_about pa pd sc lq lz lo v1 (fun r lo' => Vw (wp_X10_about ma md mq mz msz mth v1 (fun b mth' => C r lo' b mth'))) := by
  obtain ⟨a, d, ⟨hs, rfl, rfl, rfl, rfl, rfl, rfl⟩, h2, h3, ⟨-, rfl, rfl, hz⟩, ⟨c, hc, rfl, rfl, -⟩, -⟩ := hR
  unfold wp_L_about wp_X9_about wp_X10_about jn1
  have good : ∀ b : Int32, ∀ lo' : Nat → Int64, lo' = vp_updL lo (0 : Int32).toNatClampNeg b.toInt64 → C 0 lo' b 0 := fun b lo' e => hC 0 lo' b 0 rfl (fun _ => by rw [e]; exact pk_uLs)
  refine ⟨fun e => ?_, fun n0 => ⟨fun e => ?_, fun n1 => ⟨fun e => ?_, fun n2 => ⟨fun e => ?_, fun n3 => ⟨fun e => ?_, fun n4 => ?_⟩⟩⟩⟩⟩
  · subst e
    exact hV _ (t_X10_within (fun _ => ⟨fun c => absurd c (by decide), fun _ => t_fails0 ⟨fun _ => ⟨fun _ => good _ _ rfl, fun c => absurd rfl c⟩, fun c => absurd rfl c⟩⟩) (fun c => absurd ⟨by decide, by decide⟩ c))
  · subst e
    exact hV _ (t_X10_within (fun _ => ⟨fun c => absurd c (by decide), fun _ => t_fails0 ⟨fun _ => ⟨fun c => absurd c (by decide), fun _ => ⟨fun _ => good _ _ rfl, fun c => absurd rfl c⟩⟩, fun c => absurd rfl c⟩⟩) (fun c => absurd ⟨by decide, by decide⟩ c))
  · subst e
    exact hV _ (t_X10_within (fun _ => ⟨fun c => absurd c (by decide), fun _ => t_fails0 ⟨fun _ => ⟨fun c => absurd c (by decide), fun _ => ⟨fun c => absurd c (by decide), fun _ => ⟨fun _ => good _ _ rfl, fun c => absurd rfl c⟩⟩⟩, fun c => absurd rfl c⟩⟩) (fun c => absurd ⟨by decide, by decide⟩ c))
  · subst e
    refine ⟨fun z => hV _ (t_X10_within (fun _ => ⟨fun c => absurd c (by decide), fun _ => t_fails0 ⟨fun _ => ⟨fun c => absurd c (by decide), fun _ => ⟨fun c => absurd c (by decide), fun _ => ⟨fun c => absurd c (by decide), fun _ => ⟨fun _ => ⟨fun _ => good _ _ rfl, fun c => absurd z c⟩, fun c => absurd rfl c⟩⟩⟩⟩, fun c => absurd rfl c⟩⟩) (fun c => absurd ⟨by decide, by decide⟩ c)), fun z => hV _ (t_X10_within (fun _ => ⟨fun c => absurd c (by decide), fun _ => t_fails0 ⟨fun _ => ⟨fun c => absurd c (by decide), fun _ => ⟨fun c => absurd c (by decide), fun _ => ⟨fun c => absurd c (by decide), fun _ => ⟨fun _ => ⟨fun c => absurd c z, fun _ => good _ _ rfl⟩, fun c => absurd rfl c⟩⟩⟩⟩, fun c => absurd rfl c⟩⟩) (fun c => absurd ⟨by decide, by decide⟩ c))⟩
  · subst e
    exact hV _ (t_X10_within (fun _ => ⟨fun c => absurd c (by decide), fun _ => t_fails0 ⟨fun _ => ⟨fun c => absurd c (by decide), fun _ => ⟨fun c => absurd c (by decide), fun _ => ⟨fun c => absurd c (by decide), fun _ => ⟨fun c => absurd c (by decide), fun _ => good _ _ rfl⟩⟩⟩⟩, fun c => absurd rfl c⟩⟩) (fun c => absurd ⟨by decide, by decide⟩ c))
  · refine hV _ (t_X10_within (fun c1 => ?_) (fun _ => ⟨fun _ => t_fails1 ⟨fun c => absurd c (by decide), fun _ => hC 1 lo _ 1 rfl (fun e => absurd e (by decide))⟩, fun c => absurd rfl c⟩))
    exfalso
    obtain ⟨n, hn, rfl⟩ := in_0 (n := 4) (by omega) c1
    have : n = 0 ∨ n = 1 ∨ n = 2 ∨ n = 3 ∨ n = 4 := by omega
    rcases this with rfl | rfl | rfl | rfl | rfl
    · exact n0 rfl
    · exact n1 rfl
    · exact n2 rfl
    · exact n3 rfl
    · exact n4 rfl
