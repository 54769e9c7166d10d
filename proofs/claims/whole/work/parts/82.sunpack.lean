/-! unpack -/
def bXY (a x y : Nat) : Nat := x / 4 + (y / 4) * a
theorem bXY_dm {a x y : Nat} (hx : x < 4 * a) : bXY a x y / a = y / 4 ∧ bXY a x y % a = x / 4 := by
  unfold bXY
  have h0 : 0 < a := by omega
  have h1 : x / 4 < a := by omega
  rw [Nat.add_mul_div_right _ _ h0, Nat.add_mul_mod_self_right, Nat.div_eq_of_lt h1, Nat.mod_eq_of_lt h1]
  omega
theorem at_xy {a x y : Nat} (hx : x < 4 * a) : atP a (bXY a x y) (4 * (y % 4) + x % 4) = 32 * y + x := by
  obtain ⟨h1, h2⟩ := bXY_dm (y := y) hx
  unfold atP
  rw [h1, h2]; omega
theorem rnd_blk {a d b : Nat} {px m : Nat → Int32} (hs : 1 ≤ a ∧ a ≤ 8 ∧ 1 ≤ d ∧ d ≤ 8) (hb : b < a * d) (h : ∀ c, c < b → ∀ i, i < 16 → px (atP a c i) = m (atP a c i)) : rnd a b px m := by
  obtain ⟨h1, h2, h3⟩ := blk hs hb
  have e := Nat.div_add_mod b a
  have key : ∀ x y : Nat, x < 4 * a → bXY a x y < b → px (32 * y + x) = m (32 * y + x) := by
    intro x y hx hlt
    have := h (bXY a x y) hlt (4 * (y % 4) + x % 4) (by omega)
    rw [at_xy hx] at this
    exact this
  have eQ : 0 < b / a → (4 * (b / a) - 1) / 4 = b / a - 1 := fun hu => by omega
  have eM : 0 < b / a → (b / a - 1) * a + a = a * (b / a) := fun hu => by
    have e1 : b / a = (b / a - 1) + 1 := by omega
    conv => rhs; rw [e1, Nat.mul_add, Nat.mul_one, Nat.mul_comm]
  refine ⟨fun hu t ht h4 => key _ _ (by omega) ?_, fun hl t ht => key _ _ (by omega) ?_, fun hu hl => key _ _ (by omega) ?_⟩
  · unfold bXY
    rw [eQ hu]
    have := eM hu
    generalize (b / a - 1) * a = Z at *
    generalize a * (b / a) = Y at *
    omega
  · unfold bXY
    have e1 : (4 * (b / a) + t) / 4 = b / a := by omega
    rw [e1, Nat.mul_comm (b / a) a]
    generalize a * (b / a) = Y at *
    omega
  · unfold bXY
    rw [eQ hu]
    have := eM hu
    generalize (b / a - 1) * a = Z at *
    generalize a * (b / a) = Y at *
    omega
theorem bXY_lt {a d x y : Nat} (hx : x < 4 * a) (hy : y < 4 * d) : bXY a x y < a * d := by
  unfold bXY
  have h1 : (y / 4 + 1) * a ≤ d * a := Nat.mul_le_mul_right a (by omega)
  rw [Nat.add_mul, Nat.one_mul, Nat.mul_comm d a] at h1
  omega
theorem pic_blk {a d : Nat} {px m : Nat → Int32} (h : ∀ c, c < a * d → ∀ i, i < 16 → px (atP a c i) = m (atP a c i) ∧ pOk (m (atP a c i))) : rPic a d px m := by
  intro x y hx hy
  have := h (bXY a x y) (bXY_lt hx hy) (4 * (y % 4) + x % 4) (by omega)
  rw [at_xy hx] at this
  exact this
theorem t_X9_unpack_64 {β : Nat → Nat} {N a d q p0 p : Nat} {m0 m : Nat → Int32} {mo : Nat → Nat} {lv : Nat → Nat → Int32} {px fl mt tc um uv : Nat → Int32} {fa ff fm : Int32} {K : Int32 → Bool → Int32 → Int32 → (Nat → Int32) → Int32 → Int32 → Int32 → (Nat → Int32) → (Nat → Int32) → (Nat → Int32) → Int32 → Int32 → Int32 → Int32 → Int32 → Int32 → Int32 → (Nat → Int32) → (Nat → Int32) → Int32 → Int32 → Int32 → Int32 → (Nat → Int32) → (Nat → Int32) → Prop} {X : Int32 → (Nat → Int32) → Int32 → Int32 → Int32 → (Nat → Int32) → (Nat → Int32) → (Nat → Int32) → Prop}
    (hs : 1 ≤ a ∧ a ≤ 8 ∧ 1 ≤ d ∧ d ≤ 8) (hq : q ≤ 51) (hA : rAl β N a q p0 m0 (a * d) = .ok (p, mo, lv, m)) (hrow : rowU a mo lv um uv (a * d))
    (hX : ∀ v px' fa' ff' fm' fl' mt' tc', rPic a d px' m → X v px' fa' ff' fm' fl' mt' tc') : ∃ k, wl_X9_unpack_64 (nI a) (nI d) (nI q) um uv K X k 0 px fa ff fm fl mt tc := by
  have had := ad_le hs
  have ha : 1 ≤ a ∧ a ≤ 8 := ⟨hs.1, hs.2.1⟩
  refine pk_loop (fun n i (s : (Nat → Int32) × Int32 × Int32 × Int32 × (Nat → Int32) × (Nat → Int32) × (Nat → Int32)) => wl_X9_unpack_64 (nI a) (nI d) (nI q) um uv K X n (nI i) s.1 s.2.1 s.2.2.1 s.2.2.2.1 s.2.2.2.2.1 s.2.2.2.2.2.1 s.2.2.2.2.2.2)
    (fun i s => ∃ p1 mo1 lv1 m1, rAl β N a q p0 m0 i = .ok (p1, mo1, lv1, m1) ∧ ∀ c, c < i → ∀ j, j < 16 → s.1 (atP a c j) = m1 (atP a c j) ∧ pOk (m1 (atP a c j))) (a * d) 0 (px, fa, ff, fm, fl, mt, tc) (by omega) ⟨p0, _, _, m0, rfl, fun c hc => absurd hc (by omega)⟩ (fun n s hI => ?_) (fun n b s hb hI ih => ?_)
  · obtain ⟨px1, fa1, ff1, fm1, fl1, mt1, tc1⟩ := s
    obtain ⟨p1, mo1, lv1, m1, k1, k2⟩ := hI
    dsimp only at k2 ⊢
    rw [hA] at k1
    injection k1 with k1
    injection k1 with _ k1
    injection k1 with _ k1
    injection k1 with _ k1
    subst k1
    rw [wl_X9_unpack_64]
    unfold wp_X3_blocks
    rw [pk_mul]
    dsimp only
    rw [nI_le']
    exact yes (by omega) (hX _ _ _ _ _ _ _ _ (pic_blk k2))
  · obtain ⟨px1, fa1, ff1, fm1, fl1, mt1, tc1⟩ := s
    obtain ⟨p1, mo1, lv1, m1, k1, k2⟩ := hI
    dsimp only at k2 ⊢
    obtain ⟨p2, mo2, lv2, m2, p3, g1, g2⟩ := rAl_keep (a * d) hA b hb
    rw [k1] at g1
    injection g1 with g1
    injection g1 with e1 g1
    injection g1 with e2 g1
    injection g1 with e3 e4
    subst e1 e2 e3 e4
    obtain ⟨r1, r2, r3, r4⟩ := hrow b hb
    rw [wl_X9_unpack_64]
    unfold wp_X3_blocks
    rw [pk_mul]
    dsimp only
    rw [nI_le']
    refine nay (by omega) (t_X1_unpackBlock hs hb hq (rnd_blk hs hb (fun c hc i hi => (k2 c hc i hi).1)) r1 r2 r3 r4 (fun mt' fa' ff' fm' fl' tc' x hx => ?_))
    rw [hx, nI_1]
    refine ih (_, fa', ff', fm', fl', mt', tc') ⟨p3, _, _, _, rAl_s k1 g2, fun c hc j hj => ?_⟩
    show wr px1 a b (rb m1 a b (mo b) (lv b) q) 16 (atP a c j) = wr m1 a b (rb m1 a b (mo b) (lv b) q) 16 (atP a c j) ∧ pOk (wr m1 a b (rb m1 a b (mo b) (lv b) q) 16 (atP a c j))
    by_cases e : c = b
    · subst e
      rw [wr_at ha 16 (by decide) j hj, wr_at ha 16 (by decide) j hj]
      exact ⟨rfl, rb_ok j⟩
    · rw [wr_off ha e 16 (by decide) j hj, wr_off ha e 16 (by decide) j hj]
      exact k2 c (by omega) j hj
theorem cpy1024 {f g : Nat → Int32} {W : Nat → Int32 → (Nat → Int32) → Prop} {X : Int32 → (Nat → Int32) → Prop} {e : Nat} (he : e ≤ 1024) (hW : ∀ n v s, W (n + 1) v s = ((nI e ≤ v → X v s) ∧ (¬ nI e ≤ v → vp_in v e ∧ vp_in v e ∧ ∀ x : Int32, x = v + 1 → W n x (jup s v (jat f v))))) (hX : ∀ v s, (∀ j, j < e → s j = f j) → X v s) : ∃ k, W k 0 g := by
  refine pk_loop (fun n i s => W n (nI i) s) (fun i s => ∀ j, j < i → s j = f j) e 0 g (by omega) (fun j hj => absurd hj (by omega)) (fun n s hI => ?_) (fun n i s hi hI ih => ?_)
  · rw [hW]
    exact yes (nI_le (Nat.le_refl _) (by omega)) (hX _ _ hI)
  · rw [hW]
    refine nay (nI_ge hi (by omega)) ⟨nI_in', nI_in', fun x hx => ?_⟩
    rw [hx, nI_1, jat_nI, jup_nI]
    refine ih _ (fun j hj => ?_)
    rw [upd_if]
    split
    · next e => rw [e]
    · exact hI j (by omega)
theorem s_unpack {pa pd : Int32} {px : Nat → Int32} {fa ff fm : Int32} {fl mt tc : Nat → Int32} {sc : Int32} {sb : Nat → Int32} {rn rf rp la ld lq lz : Int32} {lm lv : Nat → Int32} {ua ud uq uz : Int32} {um uv : Nat → Int32} {ma md mq mz msz mat mpl mfa mth : Int32} {mpic mkep mmod mcoe mnmo mnco mby mwk : Nat → Int32}
    {C : Int32 → Bool → Int32 → Int32 → (Nat → Int32) → Int32 → Int32 → Int32 → (Nat → Int32) → (Nat → Int32) → (Nat → Int32) → Int32 → Int32 → Int32 → Int32 → Int32 → Int32 → Int32 → (Nat → Int32) → (Nat → Int32) → Int32 → Int32 → Int32 → Int32 → (Nat → Int32) → (Nat → Int32) → Int32 → Int32 → Int32 → Int32 → Int32 → Int32 → Int32 → Int32 → Int32 → (Nat → Int32) → (Nat → Int32) → (Nat → Int32) → (Nat → Int32) → (Nat → Int32) → (Nat → Int32) → (Nat → Int32) → Prop}
    (hR : Rel pa pd px sc sb rp la ld lq lz lm lv ma md mq mz msz mpl mpic mmod mcoe mby)
    (hC : ∀ r sw pa' pd' px' fa' ff' fm' fl' mt' tc' rn' rf' rp' la' ld' lq' lz' lm' lv' ua' ud' uq' uz' um' uv' r' ma' md' mq' mz' mat' mpl' mfa' mth' mpic' mkep' mmod' mcoe' mnmo' mnco' mwk', r = r' → Rel pa' pd' px' sc sb rp' la' ld' lq' lz' lm' lv' ma' md' mq' mz' msz mpl' mpic' mmod' mcoe' mby → C r sw pa' pd' px' fa' ff' fm' fl' mt' tc' rn' rf' rp' la' ld' lq' lz' lm' lv' ua' ud' uq' uz' um' uv' r' ma' md' mq' mz' mat' mpl' mfa' mth' mpic' mkep' mmod' mcoe' mnmo' mnco' mwk') :
    wp_X9_unpack pa pd px fa ff fm fl mt tc sc sb rn rf rp la ld lq lz lm lv ua ud uq uz um uv (fun r sw pa' pd' px' fa' ff' fm' fl' mt' tc' rn' rf' rp' la' ld' lq' lz' lm' lv' ua' ud' uq' uz' um' uv' => wp_X10_unpack ma md mq mz msz mat mpl mfa mth mpic mkep mmod mcoe mnmo mnco mby mwk (fun r' ma' md' mq' mz' mat' mpl' mfa' mth' mpic' mkep' mmod' mcoe' mnmo' mnco' mwk' => C r sw pa' pd' px' fa' ff' fm' fl' mt' tc' rn' rf' rp' la' ld' lq' lz' lm' lv' ua' ud' uq' uz' um' uv' r' ma' md' mq' mz' mat' mpl' mfa' mth' mpic' mkep' mmod' mcoe' mnmo' mnco' mwk')) := by
  obtain ⟨a0, d0, h1, h2, h3, h4, ⟨c, hc, rfl, rfl, h5⟩, h6⟩ := id hR
  have n1 : ¬ (1 : Int32) = 0 := by decide
  have hbs : bitsOf sb (betaOf mby) (8 * c) := bits_c h5
  have hbm : bitsOf mby (betaOf mby) (8 * c) := bits_m mby _
  have hβ := beta_le mby
  generalize betaOf mby = β at *
  have hjz : jz mz := by
    obtain ⟨-, -, e, hz⟩ := h4
    rw [e]
    rcases hz with hz | hz
    · rw [hz]; exact jz0
    · rw [hz]; exact jz1
  unfold wp_X9_unpack
  refine c_read (m0 := mpic) hc hbs hβ (fun e rn' la' ld' lq' lz' lm' lv' hT => yes rfl ?_) (fun a d q z p0 p mo lvv m um' uv' rn' hH hs hq hz hA hcl hrow => nay n1 (t_X3_clear (fun px' _ => ?_)))
  · -- a fault
    unfold wp_X5_fault wp_X10_unpack
    refine cpy1024 (f := mpic) (e := 1024) (W := wl_X10_unpack_29 mpic _ _) (by decide) (fun n v s => rfl) (fun _ kep hk => ?_)
    refine m_read hc hbm hβ (fun cd pl ma' md' mq' mz' mat' m' mm' mc' mw' hT2 hc1 hc2 => nay (cd_ne hc1 hc2) ⟨hjz, ?_⟩) (fun a d q z p0 p mo lvv m mm' mc' mw' mat' hH hA hcl hrow => ?_)
    · rw [hT] at hT2
      injection hT2 with hT2
      subst hT2
      refine cpy1024 (f := kep) (e := 1024) (W := wl_X10_unpack_107 kep _ _) (by decide) (fun n v s => rfl) (fun _ m2 hm2 => ?_)
      have hm2' : ∀ j, j < 1024 → m2 j = mpic j := fun j hj => (hm2 j hj).trans (hk j hj)
      refine hC _ _ _ _ _ _ _ _ _ _ _ _ _ _ _ _ _ _ _ _ _ _ _ _ _ _ _ _ _ _ _ _ _ _ _ _ _ _ _ _ _ _ rfl ⟨a0, d0, h1, fun x y hx hy => ?_, h3, h4, ⟨c, hc, rfl, rfl, h5⟩, rfl⟩
      obtain ⟨hs0, -⟩ := h1
      rw [hm2' _ (by omega)]
      exact h2 x y hx hy
    · exfalso
      unfold rT at hT
      rw [hH] at hT
      dsimp only at hT
      rw [hA] at hT
      dsimp only at hT
      rw [if_pos hcl] at hT
      exact absurd hT (by simp)
  · -- no fault
    have had := ad_le hs
    refine t_X9_unpack_64 hs hq hA hrow (fun _ px1 fa1 ff1 fm1 fl1 mt1 tc1 hp1 => ?_)
    have model : ∀ px2 : Nat → Int32, (z = 0 → px2 = px1) → (z = 1 → px2 = smA px1 (nI q) a d) → wp_X10_unpack ma md mq mz (nI c) mat mpl mfa mth mpic mkep mmod mcoe mnmo mnco mby mwk (fun r' ma' md' mq' mz' mat' mpl' mfa' mth' mpic' mkep' mmod' mcoe' mnmo' mnco' mwk' => C 0 true (nI a) (nI d) px2 fa1 ff1 fm1 fl1 mt1 tc1 rn' 0 (-1) (nI a) (nI d) (nI q) (nI z) um' uv' la ld lq lz lm lv r' ma' md' mq' mz' mat' mpl' mfa' mth' mpic' mkep' mmod' mcoe' mnmo' mnco' mwk') := by
      intro px2 hpx0 hpx1
      unfold wp_X10_unpack
      refine cpy1024 (f := mpic) (e := 1024) (W := wl_X10_unpack_29 mpic _ _) (by decide) (fun n v s => rfl) (fun _ kep hk => ?_)
      refine m_read hc hbm hβ (fun cd pl ma' md' mq' mz' mat' m' mm' mc' mw' hT2 hc1 hc2 => ?_) (fun a' d' q' z' p0' p' mo' lv' m' mm' mc' mw' mat' hH' hA' hcl' hrow' => ?_)
      · exfalso
        unfold rT at hT2
        rw [hH] at hT2
        dsimp only at hT2
        rw [hA] at hT2
        dsimp only at hT2
        rw [if_pos hcl] at hT2
        exact absurd hT2 (by simp)
      · rw [hH] at hH'
        injection hH' with hH'
        injection hH' with q1 hH'
        injection hH' with q2 hH'
        injection hH' with q3 hH'
        injection hH' with q4 q5
        subst q1 q2 q3 q4 q5
        rw [hA] at hA'
        injection hA' with hA'
        injection hA' with w1 hA'
        injection hA' with w2 hA'
        injection hA' with w3 w4
        subst w1 w2 w3 w4
        unfold jn1
        have fin : ∀ m2 : Nat → Int32, rPic a d px2 m2 → ∃ k : Nat, wl_X10_unpack_155 mm' (fun r' ma' md' mq' mz' mat' mpl' mfa' mth' mpic' mkep' mmod' mcoe' mnmo' mnco' mwk' => C 0 true (nI a) (nI d) px2 fa1 ff1 fm1 fl1 mt1 tc1 rn' 0 (-1) (nI a) (nI d) (nI q) (nI z) um' uv' la ld lq lz lm lv r' ma' md' mq' mz' mat' mpl' mfa' mth' mpic' mkep' mmod' mcoe' mnmo' mnco' mwk') (fun (v5_19 : Int32) (mmod_19 : (Nat → Int32)) => ∃ k : Nat, wl_X10_unpack_185 mc' (fun r' ma' md' mq' mz' mat' mpl' mfa' mth' mpic' mkep' mmod' mcoe' mnmo' mnco' mwk' => C 0 true (nI a) (nI d) px2 fa1 ff1 fm1 fl1 mt1 tc1 rn' 0 (-1) (nI a) (nI d) (nI q) (nI z) um' uv' la ld lq lz lm lv r' ma' md' mq' mz' mat' mpl' mfa' mth' mpic' mkep' mmod' mcoe' mnmo' mnco' mwk') (fun (v5_25 : Int32) (mcoe_25 : (Nat → Int32)) => C 0 true (nI a) (nI d) px2 fa1 ff1 fm1 fl1 mt1 tc1 rn' 0 (-1) (nI a) (nI d) (nI q) (nI z) um' uv' la ld lq lz lm lv 0 (nI a) (nI d) (nI q) (nI z) mat' (-1) 0 0 m2 kep mmod_19 mcoe_25 mm' mc' mw') k 0 mcoe) k 0 mmod := by
          intro m2 hm2
          refine cpy1024 (f := mm') (e := 64) (W := wl_X10_unpack_155 mm' (fun r' ma' md' mq' mz' mat' mpl' mfa' mth' mpic' mkep' mmod' mcoe' mnmo' mnco' mwk' => C 0 true (nI a) (nI d) px2 fa1 ff1 fm1 fl1 mt1 tc1 rn' 0 (-1) (nI a) (nI d) (nI q) (nI z) um' uv' la ld lq lz lm lv r' ma' md' mq' mz' mat' mpl' mfa' mth' mpic' mkep' mmod' mcoe' mnmo' mnco' mwk') _) (by decide) (fun n v s => rfl) (fun _ mm2 hmm2 => ?_)
          refine cpy1024 (f := mc') (e := 1024) (W := wl_X10_unpack_185 mc' (fun r' ma' md' mq' mz' mat' mpl' mfa' mth' mpic' mkep' mmod' mcoe' mnmo' mnco' mwk' => C 0 true (nI a) (nI d) px2 fa1 ff1 fm1 fl1 mt1 tc1 rn' 0 (-1) (nI a) (nI d) (nI q) (nI z) um' uv' la ld lq lz lm lv r' ma' md' mq' mz' mat' mpl' mfa' mth' mpic' mkep' mmod' mcoe' mnmo' mnco' mwk') _) (by decide) (fun n v s => rfl) (fun _ mc2 hmc2 => ?_)
          refine hC _ _ _ _ _ _ _ _ _ _ _ _ _ _ _ _ _ _ _ _ _ _ _ _ _ _ _ _ _ _ _ _ _ _ _ _ _ _ _ _ _ _ rfl ⟨a, d, ⟨hs, rfl, rfl, rfl, rfl, rfl, rfl⟩, hm2, ⟨fun b hb => ?_, fun i hi => ?_⟩, ⟨⟨q, hq, rfl⟩, rfl, rfl, ?_⟩, ⟨c, hc, rfl, rfl, h5⟩, rfl⟩
          · rw [hmm2 b (by omega)]
            exact (hrow b hb).1.trans (hrow' b hb).1.symm
          · rw [hmc2 i (by omega)]
            have e : i = 16 * (i / 16) + i % 16 := (Nat.div_add_mod i 16).symm
            have hb : i / 16 < a * d := by omega
            rw [e]
            exact ((hrow _ hb).2.2.2 _ (by omega)).trans ((hrow' _ hb).2.2.2 _ (by omega)).symm
          · have hcs : z = 0 ∨ z = 1 := by omega
            rcases hcs with e | e
            · rw [e]; exact Or.inl rfl
            · rw [e]; exact Or.inr rfl
        refine yes rfl ?_
        have hcs : z = 0 ∨ z = 1 := by omega
        rcases hcs with e | e
        · subst e
          refine yes rfl (fin _ ?_)
          rw [hpx0 rfl]; exact hp1
        · subst e
          refine nay n1 (t_X10_smoothAll hs (okM_of hp1) (fin _ ?_))
          rw [hpx1 rfl]; exact smA_rel hp1
    have hcs : z = 0 ∨ z = 1 := by omega
    rcases hcs with e | e
    · subst e
      exact yes rfl (model px1 (fun _ => rfl) (fun e => absurd e (by decide)))
    · subst e
      exact nay n1 (t_X3_smoothEdges hs (model _ (fun e => absurd e (by decide)) (fun _ => rfl)))
