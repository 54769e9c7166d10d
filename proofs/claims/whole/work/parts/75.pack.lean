/-! pack, both sides over one row of pictures -/
noncomputable def pst (m0 : Nat → Int32) (a q : Nat) : Nat → Nat → Int32
  | 0 => m0
  | b + 1 => wr (pst m0 a q b) a b (rb (pst m0 a q b) a b (bst (pst m0 a q b) a b) (pl (pst m0 a q b) a b (bst (pst m0 a q b) a b) q) q) 16
noncomputable def pmo (m0 : Nat → Int32) (a q b : Nat) : Nat := bst (pst m0 a q b) a b
noncomputable def plv (m0 : Nat → Int32) (a q b : Nat) : Nat → Int32 := pl (pst m0 a q b) a b (pmo m0 a q b) q
theorem rb_ok {m : Nat → Int32} {a b mode : Nat} {l : Nat → Int32} {q : Nat} (i : Nat) : pOk (rb m a b mode l q i) := clipI_ok _
theorem wr_pic {a d b : Nat} {px m g : Nat → Int32} (h : rPic a d px m) (hg : ∀ i, pOk (g i)) : rPic a d (wr px a b g 16) (wr m a b g 16) := fun x y hx hy => ⟨wr_same (h x y hx hy).1 16, wr_ok (h x y hx hy).2 hg 16⟩
theorem pst_ok {a d q : Nat} {m0 : Nat → Int32} (h : okM a d m0) : ∀ b, okM a d (pst m0 a q b)
  | 0 => h
  | b + 1 => fun x y hx hy => wr_ok (pst_ok h b x y hx hy) (fun i => rb_ok i) 16
def rowC (m0 : Nat → Int32) (a q : Nat) (lm lv : Nat → Int32) (n : Nat) : Prop := ∀ c, c < n → lm c = nI (pmo m0 a q c) ∧ isB (pst m0 a q c) a c (pmo m0 a q c) ∧ ∀ i, i < 16 → lv (16 * c + i) = plv m0 a q c i
theorem rowC_s {m0 : Nat → Int32} {a q b : Nat} {lm lv : Nat → Int32} (h : rowC m0 a q lm lv b) (hB : isB (pst m0 a q b) a b (pmo m0 a q b)) : rowC m0 a q (upd lm b (nI (pmo m0 a q b))) (lay4 lv (16 * b) 16 (plv m0 a q b)) (b + 1) := by
  intro c hc
  by_cases e : c = b
  · subst e
    exact ⟨upd_s _ _ _, hB, fun i hi => lay4_at _ _ _ _ hi⟩
  · obtain ⟨h1, h2, h3⟩ := h c (by omega)
    refine ⟨by rw [upd_n _ _ e]; exact h1, h2, fun i hi => ?_⟩
    rw [lay4_off _ _ _ _ (by omega)]
    exact h3 i hi
theorem t_X9_pack_36 {a d q : Nat} {m0 : Nat → Int32} {px fl mt tc lm lv : Nat → Int32} {fa ff fm : Int32} {K : Int32 → (Nat → Int32) → Int32 → Int32 → Int32 → (Nat → Int32) → (Nat → Int32) → (Nat → Int32) → Int32 → (Nat → Int32) → Int32 → Int32 → Int32 → Int32 → (Nat → Int32) → (Nat → Int32) → Prop} {X : Int32 → (Nat → Int32) → Int32 → Int32 → Int32 → (Nat → Int32) → (Nat → Int32) → (Nat → Int32) → (Nat → Int32) → (Nat → Int32) → Prop}
    (hs : 1 ≤ a ∧ a ≤ 8 ∧ 1 ≤ d ∧ d ≤ 8) (hq : q ≤ 51) (hp : rPic a d px m0)
    (hX : ∀ v px' fa' ff' fm' fl' mt' tc' lm' lv', rPic a d px' (pst m0 a q (a * d)) → rowC m0 a q lm' lv' (a * d) → X v px' fa' ff' fm' fl' mt' tc' lm' lv') :
    ∃ k, wl_X9_pack_36 (nI a) (nI d) (nI q) K X k 0 px fa ff fm fl mt tc lm lv := by
  have had := ad_le hs
  refine pk_loop (fun n i (s : (Nat → Int32) × Int32 × Int32 × Int32 × (Nat → Int32) × (Nat → Int32) × (Nat → Int32) × (Nat → Int32) × (Nat → Int32)) => wl_X9_pack_36 (nI a) (nI d) (nI q) K X n (nI i) s.1 s.2.1 s.2.2.1 s.2.2.2.1 s.2.2.2.2.1 s.2.2.2.2.2.1 s.2.2.2.2.2.2.1 s.2.2.2.2.2.2.2.1 s.2.2.2.2.2.2.2.2)
    (fun i s => rPic a d s.1 (pst m0 a q i) ∧ rowC m0 a q s.2.2.2.2.2.2.2.1 s.2.2.2.2.2.2.2.2 i) (a * d) 0 (px, fa, ff, fm, fl, mt, tc, lm, lv) (by omega) ⟨hp, fun c hc => absurd hc (by omega)⟩ (fun n s hI => ?_) (fun n b s hb hI ih => ?_)
  · obtain ⟨px1, fa1, ff1, fm1, fl1, mt1, tc1, lm1, lv1⟩ := s
    obtain ⟨h1, h2⟩ := hI
    dsimp only at h1 h2 ⊢
    rw [wl_X9_pack_36]
    unfold wp_X3_blocks
    rw [pk_mul]
    dsimp only
    rw [nI_le']
    exact yes (by omega) (hX _ _ _ _ _ _ _ _ _ _ h1 h2)
  · obtain ⟨px1, fa1, ff1, fm1, fl1, mt1, tc1, lm1, lv1⟩ := s
    obtain ⟨h1, h2⟩ := hI
    dsimp only at h1 h2 ⊢
    rw [wl_X9_pack_36]
    unfold wp_X3_blocks
    rw [pk_mul]
    dsimp only
    rw [nI_le']
    refine nay (by omega) (t_X1_packBlock hs hb hq h1 (fun mt' fa' ff' fm' fl' tc' hB x hx => ?_))
    rw [hx, nI_1]
    exact ih (_, fa', ff', fm', fl', mt', tc', _, _) ⟨wr_pic h1 (fun i => rb_ok i), rowC_s h2 hB⟩
theorem at_off {a d c i b j : Nat} (hs : 1 ≤ a ∧ a ≤ 8 ∧ 1 ≤ d ∧ d ≤ 8) (h : c ≠ b) (hi : i < 16) (hj : j < 16) : atP a c i ≠ atP a b j := fun e => h (at_inj ⟨hs.1, hs.2.1⟩ hi hj e).1
theorem t_X10_pack_37 {m g : Nat → Int32} {K : Int32 → Int32 → Int32 → Int32 → Int32 → Int32 → (Nat → Int32) → (Nat → Int32) → (Nat → Int32) → (Nat → Int32) → (Nat → Int32) → (Nat → Int32) → Prop} {X : Int32 → (Nat → Int32) → Prop} (hX : ∀ v g', (∀ j, j < 1024 → g' j = m j) → X v g') : ∃ k, wl_X10_pack_37 m K X k 0 g := by
  refine pk_loop (fun n i s => wl_X10_pack_37 m K X n (nI i) s) (fun i s => ∀ j, j < i → s j = m j) 1024 0 g (by decide) (fun j hj => absurd hj (by omega)) (fun n s hI => ?_) (fun n i s hi hI ih => ?_)
  · rw [wl_X10_pack_37]; exact yes (by decide) (hX _ _ hI)
  · rw [wl_X10_pack_37]
    refine nay (nI_ge (a := i) (b := 1024) hi (by decide)) ⟨nI_in', nI_in', fun x hx => ?_⟩
    rw [hx, nI_1, jat_nI, jup_nI]
    refine ih _ (fun j hj => ?_)
    rw [upd_if]
    split
    · next e => rw [e]
    · exact hI j (by omega)
theorem t_X10_pack_114 {a d q z : Nat} {m0 g : Nat → Int32} {mmod mcoe mby mwk : Nat → Int32} {mat : Int32} {K : Int32 → Int32 → Int32 → Int32 → Int32 → Int32 → (Nat → Int32) → (Nat → Int32) → (Nat → Int32) → (Nat → Int32) → (Nat → Int32) → (Nat → Int32) → Prop} {X : Int32 → Int32 → (Nat → Int32) → (Nat → Int32) → (Nat → Int32) → (Nat → Int32) → (Nat → Int32) → Prop}
    (hs : 1 ≤ a ∧ a ≤ 8 ∧ 1 ≤ d ∧ d ≤ 8) (hq : q ≤ 51) (hz : z ≤ 1) (hok : okM a d m0) (hg : ∀ j, j < 1024 → g j = m0 j) (hR : RepM (hdB a d q z) mat mby)
    (hX : ∀ v mat' mmod' mcoe' mby' mwk', rowC m0 a q mmod' mcoe' (a * d) → RepM (allB a d q z (pmo m0 a q) (plv m0 a q) (a * d)) mat' mby' → X v mat' (pst m0 a q (a * d)) mmod' mcoe' mby' mwk') :
    ∃ k, wl_X10_pack_114 (nI a) (nI d) (nI q) g K X k 0 mat m0 mmod mcoe mby mwk := by
  have had := ad_le hs
  have ha : 1 ≤ a ∧ a ≤ 8 := ⟨hs.1, hs.2.1⟩
  refine pk_loop (fun n i (s : Int32 × (Nat → Int32) × (Nat → Int32) × (Nat → Int32) × (Nat → Int32) × (Nat → Int32)) => wl_X10_pack_114 (nI a) (nI d) (nI q) g K X n (nI i) s.1 s.2.1 s.2.2.1 s.2.2.2.1 s.2.2.2.2.1 s.2.2.2.2.2)
    (fun i s => s.2.1 = pst m0 a q i ∧ (∀ c, i ≤ c → c < a * d → ∀ j, j < 16 → g (atP a c j) = pst m0 a q i (atP a c j)) ∧ rowC m0 a q s.2.2.1 s.2.2.2.1 i ∧ RepM (allB a d q z (pmo m0 a q) (plv m0 a q) i) s.1 s.2.2.2.2.1) (a * d) 0 (mat, m0, mmod, mcoe, mby, mwk) (by omega) ⟨rfl, fun c _ hc j hj => hg _ (at_lt hs hc hj), fun c hc => absurd hc (by omega), hR⟩ (fun n s hI => ?_) (fun n b s hb hI ih => ?_)
  · obtain ⟨mat1, m1, mm1, mc1, mb1, mw1⟩ := s
    obtain ⟨h1, h2, h3, h4⟩ := hI
    dsimp only at h1 h2 h3 h4 ⊢
    subst h1
    rw [wl_X10_pack_114, pk_mul, nI_le']
    exact yes (by omega) (hX _ _ _ _ _ _ h3 h4)
  · obtain ⟨mat1, m1, mm1, mc1, mb1, mw1⟩ := s
    obtain ⟨h1, h2, h3, h4⟩ := hI
    dsimp only at h1 h2 h3 h4 ⊢
    subst h1
    obtain ⟨b1, b2, b3⟩ := blk hs hb
    have hokb := pst_ok (q := q) hok b
    have hgb : ∀ i, i < 16 → g (atP a b i) = pst m0 a q b (atP a b i) := h2 b (Nat.le_refl _) hb
    rw [wl_X10_pack_114, pk_mul, nI_le']
    refine nay (by omega) (t_X10_pack_133 hs hb hokb hgb (fun _ hB => ⟨nI_in', t_X10_goForth hs hb hq hokb hgb hB.1 hB.2.1 (fun mw2 => ?_)⟩))
    have hpb := fun i hi => pl_bnd hs hb hq hokb hB.1 hB.2.1 i hi
    refine t_X10_comesBack_mo6 hs hb hq hB.1 hB.2.1 (fun i hi => lay4_at _ _ _ _ hi) hpb (fun mw3 => ?_)
    rw [jup_nI]
    have hrow := rowC_s h3 hB
    have hlen := allB_len (z := z) (mo := pmo m0 a q) (lvl := plv m0 a q) hs hq b (fun c hc i hi => pl_bnd hs (by omega) hq (pst_ok hok c) (h3 c hc).2.1.1 (h3 c hc).2.1.2.1 i hi)
    refine t_X10_writeBlock (mo := pmo m0 a q) (l := plv m0 a q b) ha b3 (fun c hc => ⟨(hrow c (by omega)).1, (hrow c (by omega)).2.1.1⟩) (fun i hi => (hrow b (by omega)).2.2 i hi) hpb (by omega) h4 (fun mat2 mb2 h5 x hx => ?_)
    rw [hx, nI_1]
    refine ih (mat2, _, _, _, mb2, mw3) ⟨rfl, fun c hc1 hc2 j hj => ?_, hrow, h5⟩
    show g (atP a c j) = wr (pst m0 a q b) a b _ 16 (atP a c j)
    rw [wr_off ha (by omega) 16 (by decide) j hj]
    exact h2 c (by omega) hc2 j hj
theorem rowC_plan {m0 : Nat → Int32} {a d q : Nat} {lm lv mm mc : Nat → Int32} (h1 : rowC m0 a q lm lv (a * d)) (h2 : rowC m0 a q mm mc (a * d)) : rPlan a d lm lv mm mc := by
  refine ⟨fun b hb => (h1 b hb).1.trans (h2 b hb).1.symm, fun i hi => ?_⟩
  have e : i = 16 * (i / 16) + i % 16 := (Nat.div_add_mod i 16).symm
  have hb : i / 16 < a * d := by omega
  rw [e]
  exact ((h1 _ hb).2.2 _ (by omega)).trans ((h2 _ hb).2.2 _ (by omega)).symm
theorem s_pack {pa pd : Int32} {px : Nat → Int32} {fa ff fm : Int32} {fl mt tc : Nat → Int32} {sc : Int32} {sb : Nat → Int32} {wo wb rp la ld lq lz : Int32} {lm lv : Nat → Int32} {lo : Nat → Int64} {ma md mq mz msz mat mpl mth : Int32} {mpic mgiv mmod mcoe mby mwk : Nat → Int32} {v1 : Int32} {z : Nat}
    {C : Int32 → (Nat → Int32) → Int32 → Int32 → Int32 → (Nat → Int32) → (Nat → Int32) → (Nat → Int32) → Int32 → (Nat → Int32) → Int32 → Int32 → Int32 → Int32 → (Nat → Int32) → (Nat → Int32) → (Nat → Int64) → Int32 → Int32 → Int32 → Int32 → Int32 → Int32 → (Nat → Int32) → (Nat → Int32) → (Nat → Int32) → (Nat → Int32) → (Nat → Int32) → (Nat → Int32) → Prop}
    {Vw : Prop → Prop} (hV : ∀ P : Prop, P → Vw P) (hz : z ≤ 1) (hR : Rel pa pd px sc sb rp la ld lq lz lm lv ma md mq mz msz mpl mpic mmod mcoe mby)
    (hC : ∀ r px' fa' ff' fm' fl' mt' tc' sc' sb' wo' wb' lq' lz' lm' lv' lo' b mq' mz' msz' mat' mth' mpic' mgiv' mmod' mcoe' mby' mwk', mth' = r → (r = 0 → lo' (0 : Int32).toNatClampNeg = b.toInt64) → Rel pa pd px' sc' sb' rp la ld lq' lz' lm' lv' ma md mq' mz' msz' mpl mpic' mmod' mcoe' mby' → C r px' fa' ff' fm' fl' mt' tc' sc' sb' wo' wb' lq' lz' lm' lv' lo' b mq' mz' msz' mat' mth' mpic' mgiv' mmod' mcoe' mby' mwk') :
    wp_L_pack pa pd px fa ff fm fl mt tc sc sb wo wb la ld lq lz lm lv lo v1 (nI z) (fun r px' fa' ff' fm' fl' mt' tc' sc' sb' wo' wb' lq' lz' lm' lv' lo' => Vw (wp_X10_pack ma md mq mz msz mat mth mpic mgiv mmod mcoe mby mwk v1 (nI z) (fun b mq' mz' msz' mat' mth' mpic' mgiv' mmod' mcoe' mby' mwk' => C r px' fa' ff' fm' fl' mt' tc' sc' sb' wo' wb' lq' lz' lm' lv' lo' b mq' mz' msz' mat' mth' mpic' mgiv' mmod' mcoe' mby' mwk'))) := by
  obtain ⟨a, d, ⟨hs, rfl, rfl, rfl, rfl, rfl, rfl⟩, h2, h3, h4, h5, h6⟩ := id hR
  have had := ad_le hs
  have n0 : ¬ ((1 : Int32) = 0) := by decide
  have hzz : z = 0 ∨ z = 1 := by omega
  have hjz : jz (nI z) := by
    rcases hzz with rfl | rfl
    · exact jz0
    · exact jz1
  unfold wp_L_pack wp_X9_pack
  refine t_X9_isWithin (fun c1 => nay n0 ⟨hjz, ?_⟩) (fun c1 => yes rfl (hV _ ?_))
  · obtain ⟨q, hq, rfl⟩ := in_0 (n := 51) (by decide) c1
    refine t_X9_pack_36 hs hq h2 (fun _ px1 fa1 ff1 fm1 fl1 mt1 tc1 lm1 lv1 hp1 hrow1 => ?_)
    have hmo : ∀ b, b < a * d → lm1 b = nI (pmo mpic a q b) ∧ pmo mpic a q b < 9 := fun b hb => ⟨(hrow1 b hb).1, (hrow1 b hb).2.1.1⟩
    have hokb : ∀ b, okM a d (pst mpic a q b) := pst_ok (okM_of h2)
    have hlv : ∀ b, b < a * d → ∀ i, i < 16 → lv1 (16 * b + i) = plv mpic a q b i ∧ bnd 4095 (plv mpic a q b i) := fun b hb i hi => ⟨(hrow1 b hb).2.2 i hi, pl_bnd hs hb hq (hokb b) (hrow1 b hb).2.1.1 (hrow1 b hb).2.1.2.1 i hi⟩
    have hlen := allB_len (z := z) (mo := pmo mpic a q) (lvl := plv mpic a q) hs hq (a * d) (fun c hc i hi => (hlv c hc i hi).2)
    -- the model, once the class's picture is what it is
    have model : ∀ (px2 : Nat → Int32), (z = 0 → px2 = px1) → (z = 1 → px2 = smA px1 (nI q) a d) → ∀ (wo2 wb2 sc2 : Int32) (sb2 : Nat → Int32), sc2 = nI (((allB a d q z (pmo mpic a q) (plv mpic a q) (a * d)).length + 7) / 8) → (∀ k, 8 * k < (allB a d q z (pmo mpic a q) (plv mpic a q) (a * d)).length → sb2 k &&& 255 = nI (byt (allB a d q z (pmo mpic a q) (plv mpic a q) (a * d)) k 8)) →
        wp_X10_pack (nI a) (nI d) mq mz msz mat mth mpic mgiv mmod mcoe mby mwk (nI q) (nI z) (fun b mq' mz' msz' mat' mth' mpic' mgiv' mmod' mcoe' mby' mwk' => C 0 px2 fa1 ff1 fm1 fl1 mt1 tc1 sc2 sb2 wo2 wb2 (nI q) (nI z) lm1 lv1 (vp_updL lo (0 : Int32).toNatClampNeg sc2.toInt64) b mq' mz' msz' mat' mth' mpic' mgiv' mmod' mcoe' mby' mwk') := by
      intro px2 hpx0 hpx1 wo2 wb2 sc2 sb2 hsc hsb
      unfold wp_X10_pack
      refine t_X10_within (fun _ => ?_) (fun c => absurd c1 c)
      unfold jn1
      refine nay n0 (t_fails0 (yes rfl ⟨hjz, t_X10_pack_37 (fun _ g hg => ?_)⟩))
      have h0 : RepM [] 0 mby := ⟨rfl, fun k hk => absurd hk (by simp), fun x hx => absurd hx (by simp)⟩
      have u1 := wU_len (V := a - 1) (by omega)
      have u2 := wU_len (V := d - 1) (by omega)
      have u3 := wU_len (V := q) (by omega)
      rw [nI_m1, nI_m1]
      refine t_X10_writeU (by omega) (by simp) h0 (fun mat1 mb1 g1 => t_X10_writeU (by omega) (by simp; omega) g1 (fun mat2 mb2 g2 => t_X10_writeU (by omega) (by simp; omega) g2 (fun mat3 mb3 g3 => ?_)))
      have rest : ∀ (mat4 : Int32) (mb4 : Nat → Int32), RepM (hdB a d q z) mat4 mb4 → ∃ k : Nat, wl_X10_pack_114 (nI a) (nI d) (nI q) g (fun b mq' mz' msz' mat' mth' mpic' mgiv' mmod' mcoe' mby' mwk' => C 0 px2 fa1 ff1 fm1 fl1 mt1 tc1 sc2 sb2 wo2 wb2 (nI q) (nI z) lm1 lv1 (vp_updL lo (0 : Int32).toNatClampNeg sc2.toInt64) b mq' mz' msz' mat' mth' mpic' mgiv' mmod' mcoe' mby' mwk') (fun (v3_38 : Int32) (mat_38 : Int32) (mpic_38 : (Nat → Int32)) (mmod_38 : (Nat → Int32)) (mcoe_38 : (Nat → Int32)) (mby_38 : (Nat → Int32)) (mwk_38 : (Nat → Int32)) => ((nI z = 0 → C 0 px2 fa1 ff1 fm1 fl1 mt1 tc1 sc2 sb2 wo2 wb2 (nI q) (nI z) lm1 lv1 (vp_updL lo (0 : Int32).toNatClampNeg sc2.toInt64) ((mat_38 + 7) / 8) (nI q) (nI z) ((mat_38 + 7) / 8) mat_38 0 mpic_38 g mmod_38 mcoe_38 mby_38 mwk_38) ∧ (¬ nI z = 0 → wp_X10_smoothAll (nI a) (nI d) (nI q) mpic_38 (fun (mpic_42 : (Nat → Int32)) => C 0 px2 fa1 ff1 fm1 fl1 mt1 tc1 sc2 sb2 wo2 wb2 (nI q) (nI z) lm1 lv1 (vp_updL lo (0 : Int32).toNatClampNeg sc2.toInt64) ((mat_38 + 7) / 8) (nI q) (nI z) ((mat_38 + 7) / 8) mat_38 0 mpic_42 g mmod_38 mcoe_38 mby_38 mwk_38)))) k 0 mat4 mpic mmod mcoe mb4 mwk := by
        intro mat4 mb4 g4
        refine t_X10_pack_114 hs hq hz (okM_of h2) hg g4 (fun _ mat5 mm5 mc5 mb5 mw5 hrow5 g5 => ?_)
        obtain ⟨rfl, k1, -⟩ := g5
        have esz : (nI (allB a d q z (pmo mpic a q) (plv mpic a q) (a * d)).length + 7) / 8 = sc2 := by
          have e7 : (7 : Int32) = nI 7 := rfl
          have e8 : (8 : Int32) = nI 8 := rfl
          rw [e7, e8, nI_add, nI_div', hsc]
        rw [esz]
        have fin : ∀ m6 : Nat → Int32, rPic a d px2 m6 → C 0 px2 fa1 ff1 fm1 fl1 mt1 tc1 sc2 sb2 wo2 wb2 (nI q) (nI z) lm1 lv1 (vp_updL lo (0 : Int32).toNatClampNeg sc2.toInt64) sc2 (nI q) (nI z) sc2 (nI (allB a d q z (pmo mpic a q) (plv mpic a q) (a * d)).length) 0 m6 g mm5 mc5 mb5 mw5 := by
          intro m6 h6'
          refine hC _ _ _ _ _ _ _ _ _ _ _ _ _ _ _ _ _ _ _ _ _ _ _ _ _ _ _ _ _ rfl (fun _ => pk_uLs) ⟨a, d, ⟨hs, rfl, rfl, rfl, rfl, rfl, rfl⟩, h6', rowC_plan hrow1 hrow5, ⟨⟨q, hq, rfl⟩, rfl, rfl, ?_⟩, ⟨_, ?_, hsc, hsc, fun k hk => ?_⟩, h6⟩
          · rcases hzz with rfl | rfl
            · exact Or.inl rfl
            · exact Or.inr rfl
          · omega
          · rw [hsb k (by omega), k1 k (by omega)]
        rcases hzz with rfl | rfl
        · refine yes rfl (fin _ ?_)
          rw [hpx0 rfl]; exact hp1
        · refine nay n0 (t_X10_smoothAll hs (hokb _) (fin _ ?_))
          rw [hpx1 rfl]; exact smA_rel hp1
      have g4 := fun (mat4 : Int32) (mb4 : Nat → Int32) (h : RepM ([] ++ wU (a - 1) ++ wU (d - 1) ++ wU q ++ wB z 1) mat4 mb4) => rest mat4 mb4 (by rw [List.nil_append] at h; exact h)
      rcases hzz with rfl | rfl
      · exact yes rfl (t_X10_write (V := 0) (k := 1) (by decide) (by decide) (by simp; omega) g3 g4)
      · exact nay n0 (t_X10_write (V := 1) (k := 1) (by decide) (by decide) (by simp; omega) g3 g4)
    unfold jn1
    rcases hzz with rfl | rfl
    · exact yes rfl (t_X6_write hs hq hz hmo hlv (fun wo2 wb2 sc2 sb2 k1 k2 => hV _ (model px1 (fun _ => rfl) (fun e => absurd e (by decide)) wo2 wb2 sc2 sb2 k1 k2)))
    · exact nay n0 (t_X3_smoothEdges hs (t_X6_write hs hq hz hmo hlv (fun wo2 wb2 sc2 sb2 k1 k2 => hV _ (model _ (fun e => absurd e (by decide)) (fun _ => rfl) wo2 wb2 sc2 sb2 k1 k2))))
  · unfold wp_X10_pack jn1
    exact t_X10_within (fun c => absurd c c1) (fun _ => yes rfl (t_fails1 (nay n0 (hC _ _ _ _ _ _ _ _ _ _ _ _ _ _ _ _ _ _ _ _ _ _ _ _ _ _ _ _ _ rfl (fun e => absurd e n0) hR))))
