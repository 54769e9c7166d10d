/-! the model reads a block -/
theorem rLs_bnd {β : Nat → Nat} {N : Nat} : ∀ (k pos p : Nat) (f : Nat → Int32) (p' : Nat) (g : Nat → Int32), (∀ i, bnd 4095 (f i)) → rLs β N k pos p f = .ok (p', g) → ∀ i, bnd 4095 (g i)
  | 0, pos, p, f, p', g, hf, h => by
    rw [rLs] at h
    injection h with h
    injection h with h1 h2
    subst h2; exact hf
  | k + 1, pos, p, f, p', g, hf, h => by
    rw [rLs] at h
    split at h
    · exact absurd h (by simp)
    · next V p1 h1 =>
      split at h
      · exact absurd h (by simp)
      · next x p2 h2 =>
        refine rLs_bnd k _ _ _ p' g (fun i => ?_) h
        rw [upd_if]
        split
        · unfold rLv at h2
          split at h2
          · exact absurd h2 (by simp)
          · next V2 p3 h3 =>
            split at h2
            · exact absurd h2 (by simp)
            · next hn =>
              injection h2 with h2
              injection h2 with h4 h5
              subst h4
              exact (lvV_ok hn).1
        · exact hf i
theorem bnd_0 : bnd 4095 0 := by
  show (0 : Int32).toInt.natAbs ≤ 4095
  decide
theorem rL_bnd {β : Nat → Nat} {N p p' : Nat} {g : Nat → Int32} (h : rL β N p = .ok (p', g)) : ∀ i, bnd 4095 (g i) := by
  unfold rL at h
  split at h
  · exact absurd h (by simp)
  · exact rLs_bnd _ _ _ _ _ _ (fun _ => bnd_0) h
theorem t_X10_readBlock_105 {b : Nat} {mnco : Nat → Int32} {K : Int32 → Int32 → Int32 → (Nat → Int32) → (Nat → Int32) → Prop} {X : Int32 → (Nat → Int32) → Prop} (hb : b < 64) (hX : ∀ v g, blkIs g (fun _ => 0) b → offIs g mnco b → X v g) : ∃ k, wl_X10_readBlock_105 (nI b) K X k 0 mnco := by
  refine pk_loop (fun n i s => wl_X10_readBlock_105 (nI b) K X n (nI i) s) (fun i s => (∀ j, j < i → s (16 * b + j) = 0) ∧ offIs s mnco b) 16 0 mnco (by decide) ⟨fun j hj => absurd hj (by omega), fun j _ => rfl⟩ (fun n s hI => ?_) (fun n i s hi hI ih => ?_)
  · rw [wl_X10_readBlock_105]; exact yes (by decide) (hX _ _ hI.1 hI.2)
  · rw [wl_X10_readBlock_105, ix16]
    refine nay (nI_ge (a := i) (b := 16) hi (by decide)) ⟨nI_in', fun x hx => ?_⟩
    rw [hx, nI_1, jup_nI]
    refine ih _ ⟨fun j hj => ?_, off_upd hI.2 hi⟩
    rw [upd_if]
    split
    · rfl
    · exact hI.1 j (by omega)
theorem lv_model {V : Nat} (h : V < 65536) : (V % 2 = 1 → (nI V + 1) / 2 = lvV V) ∧ (¬ V % 2 = 1 → (-nI V) / 2 = lvV V) := by
  have e2 : (2 : Int32) = nI 2 := rfl
  have e2z : (2 : Int32) = zI 2 := rfl
  unfold lvV
  refine ⟨fun q => ?_, fun q => ?_⟩
  · rw [if_pos q, nI_1, e2, nI_div']
  · rw [if_neg q, zI_nat, zI_nat, zI_neg, zI_neg, e2z, zI_div]
    congr 1
    rw [Int.neg_tdiv, zI_td]
    omega
theorem lv_size {V : Nat} (h : V < 65536) : jabs (lvV V) = nI ((V + 1) / 2) := by
  have hb : bnd 65536 (lvV V) := by
    unfold lvV bnd
    split
    · rw [nI_toInt (by omega)]; omega
    · rw [zI_nat, zI_neg, zI_toInt]; omega
  rw [abs_n hb]
  congr 1
  unfold lvV
  split
  · rw [nI_toInt (by omega)]; omega
  · rw [zI_nat, zI_neg, zI_toInt]; omega
theorem lv_zero {V : Nat} (h : V < 65536) : lvV V = 0 ↔ (V + 1) / 2 = 0 := by
  have e0 : (0 : Int32) = nI 0 := rfl
  have e0z : (0 : Int32) = zI 0 := rfl
  unfold lvV
  split
  · rw [e0, nI_eq']
  · rw [e0z, zI_nat, zI_neg, zI_eq]; omega
theorem lv_chk {V : Nat} (hV : V < 65536) {mpl P : Int32} {J : Int32 → Int32 → Prop} (hg : ¬ ((V + 1) / 2 = 0 ∨ 2048 < (V + 1) / 2) → J mpl 0) (hb : ((V + 1) / 2 = 0 ∨ 2048 < (V + 1) / 2) → J P 6) :
    ((0 : Int32) = 0 → ((lvV V = 0 → wp_X10_stop mpl 0 6 P (fun (_ : Int32) (m : Int32) (f : Int32) => J m f)) ∧ (¬ lvV V = 0 → wp_X10_size (lvV V) (fun (r : Int32) => ((r ≤ 2048 → J mpl 0) ∧ (¬ r ≤ 2048 → wp_X10_stop mpl 0 6 P (fun (_ : Int32) (m : Int32) (f : Int32) => J m f))))))) ∧ (¬ (0 : Int32) = 0 → J mpl 0) := by
  refine yes rfl ⟨fun q3 => t_X10_stop (hb (Or.inl ((lv_zero hV).mp q3))), fun q3 => t_size' ?_⟩
  rw [lv_size hV]
  have e2048 : (2048 : Int32) = nI 2048 := rfl
  rw [e2048, nI_le']
  refine ⟨fun q4 => hg ?_, fun q4 => t_X10_stop (hb (Or.inr (by omega)))⟩
  intro h
  rcases h with h | h
  · exact q3 ((lv_zero hV).mpr h)
  · omega
theorem m_rL {mby : Nat → Int32} {β : Nat → Nat} {c p b : Nat} {mpl : Int32} {mnmo mnco : Nat → Int32} {K : Int32 → Int32 → Int32 → (Nat → Int32) → (Nat → Int32) → Prop} (hc : c ≤ 8000) (hb : bitsOf mby β (8 * c)) (hβ : ∀ i, β i ≤ 1) (hp : p ≤ 8 * c) (hbb : b < 64) (hlv : blkIs mnco (fun _ => 0) b)
    (hO : ∀ p' f g, rL β (8 * c) p = .ok (p', f) → p' ≤ 8 * c → blkIs g f b → offIs g mnco b → K (nI p') mpl 0 mnmo g) (hE : ∀ cd pl mat' g, rL β (8 * c) p = .error (cd, pl) → 1 ≤ cd → cd ≤ 7 → K mat' (nI pl) (nI cd) mnmo g) :
    wp_X10_readU (nI c) (nI p) mpl 0 mby (fun (r_10 : Int32) (mat_10 : Int32) (mpl_10 : Int32) (mfa_10 : Int32) => jn2 (fun (mpl_11 : Int32) (mfa_11 : Int32) => ∃ k : Nat, wl_X10_readBlock_160 (nI b) r_10 (nI c) mnmo mby K (fun (v3_37 : Int32) (v5_37 : Int32) (v6_37 : Int32) (mat_37 : Int32) (mpl_37 : Int32) (mfa_37 : Int32) (mnco_37 : (Nat → Int32)) => K mat_37 mpl_37 mfa_37 mnmo mnco_37) k (nI p) 0 0 mat_10 mpl_11 mfa_11 mnco) (fun J_11 => ((r_10 ≤ 16 → J_11 mpl_10 mfa_10) ∧ (¬ r_10 ≤ 16 → wp_X10_stop mpl_10 mfa_10 4 (nI p) (fun (r_39 : Int32) (mpl_39 : Int32) (mfa_39 : Int32) => J_11 mpl_39 mfa_39))))) := by
  have n1 : ¬ (1 : Int32) = 0 := by decide
  have e0 : (0 : Int32) = nI 0 := rfl
  refine t_X10_readU hc hb hβ hp (fun k p2 hU => ?_) (fun hU mat' => ?_)
  · have hl := U_lt hβ hU
    unfold jn2
    have e16 : (16 : Int32) = nI 16 := rfl
    rw [e16, nI_le']
    refine ⟨fun q => ?_, fun q => t_X10_stop ⟨1, ?_⟩⟩
    · have hr : rL β (8 * c) p = rLs β (8 * c) k 0 p2 (fun _ => 0) := by unfold rL; rw [rN_ok hU (by omega)]
      refine pk_loop (fun n i (s : Int32 × Int32 × Int32 × Int32 × Int32 × (Nat → Int32)) => wl_X10_readBlock_160 (nI b) (nI k) (nI c) mnmo mby K (fun (v3_37 : Int32) (v5_37 : Int32) (v6_37 : Int32) (mat_37 : Int32) (mpl_37 : Int32) (mfa_37 : Int32) (mnco_37 : (Nat → Int32)) => K mat_37 mpl_37 mfa_37 mnmo mnco_37) n s.1 s.2.1 (nI i) s.2.2.1 s.2.2.2.1 s.2.2.2.2.1 s.2.2.2.2.2)
        (fun i s => ∃ pos y f, s.2.1 = nI pos ∧ s.2.2.1 = nI y ∧ s.2.2.2.1 = mpl ∧ s.2.2.2.2.1 = 0 ∧ pos ≤ 16 ∧ y ≤ 8 * c ∧ rL β (8 * c) p = rLs β (8 * c) (k - i) pos y f ∧ blkIs s.2.2.2.2.2 f b ∧ offIs s.2.2.2.2.2 mnco b) k 0 (nI p, 0, nI p2, mpl, 0, mnco) (by omega) ⟨0, p2, fun _ => 0, rfl, rfl, rfl, rfl, by omega, hl.2.1, hr, hlv, fun j _ => rfl⟩ (fun n s hI => ?_) (fun n i s hi hI ih => ?_)
      · obtain ⟨v3, v5, mat1, mpl1, mfa1, g1⟩ := s
        obtain ⟨pos, y, f, a1, a2, a3, a4, a5, a6, a7, a8, a9⟩ := hI
        dsimp only at a1 a2 a3 a4 a8 a9 ⊢
        subst a1 a2 a3 a4
        rw [wl_X10_readBlock_160, nI_le']
        rw [Nat.sub_self] at a7
        exact yes (Nat.le_refl _) (hO y f g1 a7 a6 a8 a9)
      · obtain ⟨v3, v5, mat1, mpl1, mfa1, g1⟩ := s
        obtain ⟨pos, y, f, a1, a2, a3, a4, a5, a6, a7, a8, a9⟩ := hI
        dsimp only at a1 a2 a3 a4 a8 a9 ⊢
        subst a1 a2 a3 a4
        have ek : k - i = (k - (i + 1)) + 1 := by omega
        rw [ek, rLs] at a7
        rw [wl_X10_readBlock_160, nI_le']
        unfold jn2 jn4 jn1 jn0
        have z0 : (-(0 : Int32)) / 2 = 0 := by decide
        have r0 : ¬ jrem (0 : Int32) 2 = 1 := by decide
        refine nay (by omega) (yes rfl (t_X10_readU hc hb hβ a6 (fun V p1 hV => fun x5 h5 => ?_) (fun hV mat' x5 h5 => ?_)))
        · have hVl := U_lt hβ hV
          rw [nI_add] at h5
          subst h5
          have e15 : (15 : Int32) = nI 15 := rfl
          rw [e15, nI_le']
          refine yes rfl ⟨fun q2 => yes rfl ?_, fun q2 => t_X10_stop (nay (by decide) (nay r0 (nay (by decide) (nay (by decide) (hE 5 (y) _ _ ?_ (by decide) (by decide))))))⟩
          · rw [rN_ok hV (by omega)] at a7
            dsimp only at a7
            refine t_X10_readU hc hb hβ hVl.2.1 (fun V2 p3 hV2 => ?_) (fun hV2 mat' => nay r0 (nay n1 (nay n1 (hE 1 (p1) _ _ ?_ (by decide) (by decide)))))
            · have hV2l := U_lt hβ hV2
              have hrv : rLv β (8 * c) p1 = if (V2 + 1) / 2 = 0 ∨ 2048 < (V2 + 1) / 2 then .error (6, p1) else .ok (lvV V2, p3) := by unfold rLv; rw [rN_ok hV2 (by omega)]
              have lm := lv_model hV2l.1
              have e2 : (2 : Int32) = nI 2 := rfl
              have e1 : (1 : Int32) = nI 1 := rfl
              have er : (jrem (nI V2) 2 = 1) ↔ V2 % 2 = 1 := by
                rw [e2, nI_rem', e1, nI_eq']
              have goodE : ¬ ((V2 + 1) / 2 = 0 ∨ 2048 < (V2 + 1) / 2) → rL β (8 * c) p = rLs β (8 * c) (k - (i + 1)) (pos + V + 1) p3 (upd f (pos + V) (lvV V2)) := by
                intro hn
                rw [if_neg hn] at hrv
                rw [a7, hrv]
              have badE : ((V2 + 1) / 2 = 0 ∨ 2048 < (V2 + 1) / 2) → rL β (8 * c) p = .error (6, p1) := by
                intro hbad
                rw [if_pos hbad] at hrv
                rw [a7, hrv]
              refine ⟨fun q3 => ?_, fun q3 => ?_⟩
              · rw [lm.1 (er.mp q3)]
                refine lv_chk hV2l.1 (fun hn => yes rfl ?_) (fun hbad => nay (by decide) (hE 6 p1 _ _ (badE hbad) (by decide) (by decide)))
                rw [ix16]
                refine ⟨nI_in', fun y5 hy5 y6 hy6 => ?_⟩
                rw [hy5, hy6, nI_1, nI_1, jup_nI]
                exact ih (nI p1, nI (pos + V + 1), nI p3, mpl1, 0, _) ⟨pos + V + 1, p3, upd f (pos + V) (lvV V2), rfl, rfl, rfl, rfl, by omega, hV2l.2.1, goodE hn, blk_upd a8 (by omega), off_upd a9 (by omega)⟩
              · rw [lm.2 (fun h => q3 (er.mpr h))]
                refine lv_chk hV2l.1 (fun hn => yes rfl ?_) (fun hbad => nay (by decide) (hE 6 p1 _ _ (badE hbad) (by decide) (by decide)))
                rw [ix16]
                refine ⟨nI_in', fun y5 hy5 y6 hy6 => ?_⟩
                rw [hy5, hy6, nI_1, nI_1, jup_nI]
                exact ih (nI p1, nI (pos + V + 1), nI p3, mpl1, 0, _) ⟨pos + V + 1, p3, upd f (pos + V) (lvV V2), rfl, rfl, rfl, rfl, by omega, hV2l.2.1, goodE hn, blk_upd a8 (by omega), off_upd a9 (by omega)⟩
            · rw [a7]
              unfold rLv
              rw [rN_no hV2]
          · rw [a7, rN_big hV (by omega)]
        · refine nay n1 (nay n1 (nay r0 (nay n1 (nay n1 (hE 1 (y) _ _ ?_ (by decide) (by decide))))))
          rw [a7, rN_no hV]
    · rw [wl_X10_readBlock_160]
      have hr : rL β (8 * c) p = .error (4, p) := by unfold rL; rw [rN_big hU (by omega)]
      exact ⟨fun _ => hE 4 (p) _ _ hr (by decide) (by decide), fun _ => nay (by decide) (hE 4 (p) _ _ hr (by decide) (by decide))⟩
  · unfold jn2
    refine yes (by decide) ⟨1, ?_⟩
    rw [wl_X10_readBlock_160]
    have hr : rL β (8 * c) p = .error (1, p) := by unfold rL; rw [rN_no hU]
    exact yes (by decide) (hE 1 (p) _ _ hr (by decide) (by decide))
noncomputable def rBk (β : Nat → Nat) (N a : Nat) (mo : Nat → Nat) (b p : Nat) : Except (Nat × Nat) (Nat × (Nat → Int32) × Nat) := match rMd β N a mo b p with
  | .error e => .error e
  | .ok (md, p1) => match rL β N p1 with
    | .error e => .error e
    | .ok (p3, f) => .ok (md, f, p3)
theorem m_rBk {mby : Nat → Int32} {β : Nat → Nat} {c p a b : Nat} {mo : Nat → Nat} {mpl : Int32} {mnmo mnco : Nat → Int32} {K : Int32 → Int32 → Int32 → (Nat → Int32) → (Nat → Int32) → Prop} (hc : c ≤ 8000) (hb : bitsOf mby β (8 * c)) (hβ : ∀ i, β i ≤ 1) (hp : p ≤ 8 * c) (ha : 1 ≤ a ∧ a ≤ 8) (hbb : b < 64) (hlm : ∀ c, c < b → mnmo c = nI (mo c) ∧ mo c < 9)
    (hO : ∀ md f p' g, rBk β (8 * c) a mo b p = .ok (md, f, p') → md < 9 → mayB (0 < b / a) (0 < b % a) md → p' ≤ 8 * c → (∀ i, bnd 4095 (f i)) → blkIs g f b → offIs g mnco b → K (nI p') mpl 0 (upd mnmo b (nI md)) g)
    (hE : ∀ cd pl mat' mm g, rBk β (8 * c) a mo b p = .error (cd, pl) → 1 ≤ cd → cd ≤ 7 → K mat' (nI pl) (nI cd) mm g) : wp_X10_readBlock (nI a) (nI c) (nI p) mpl 0 mnmo mnco mby (nI b) K := by
  have n1 : ¬ (1 : Int32) = 0 := by decide
  have hlk : lkly a mo b < 9 := lkly_lt (fun c hc => (hlm c hc).2) (fun _ => by omega)
  unfold wp_X10_readBlock
  refine t_X10_likely_mo7 ha hbb hlm ?_
  unfold jn4
  -- once the mode is there
  have rest : ∀ (md p1 : Nat), rMd β (8 * c) a mo b p = .ok (md, p1) → md < 9 → mayB (0 < b / a) (0 < b % a) md → p1 ≤ 8 * c → (((0 : Int32) = 0 → ∃ k : Nat, wl_X10_readBlock_105 (nI b) K (fun (v3_9 : Int32) (mnco_9 : (Nat → Int32)) => wp_X10_readU (nI c) (nI p1) mpl 0 mby (fun (r_10 : Int32) (mat_10 : Int32) (mpl_10 : Int32) (mfa_10 : Int32) => jn2 (fun (mpl_11 : Int32) (mfa_11 : Int32) => ∃ k : Nat, wl_X10_readBlock_160 (nI b) r_10 (nI c) (upd mnmo b (nI md)) mby K (fun (v3_37 : Int32) (v5_37 : Int32) (v6_37 : Int32) (mat_37 : Int32) (mpl_37 : Int32) (mfa_37 : Int32) (mnco_37 : (Nat → Int32)) => K mat_37 mpl_37 mfa_37 (upd mnmo b (nI md)) mnco_37) k (nI p1) 0 0 mat_10 mpl_11 mfa_11 mnco_9) (fun J_11 => ((r_10 ≤ 16 → J_11 mpl_10 mfa_10) ∧ (¬ r_10 ≤ 16 → wp_X10_stop mpl_10 mfa_10 4 (nI p1) (fun (r_39 : Int32) (mpl_39 : Int32) (mfa_39 : Int32) => J_11 mpl_39 mfa_39)))))) k 0 mnco) ∧ (¬ (0 : Int32) = 0 → K (nI p1) mpl 0 (upd mnmo b (nI md)) mnco)) := by
    intro md p1 h1 h2 h3 h4
    refine yes rfl (t_X10_readBlock_105 hbb (fun _ g0 hg0 hg1 => m_rL hc hb hβ h4 hbb hg0 (fun p' f g k1 k2 k3 k4 => ?_) (fun cd pl mat' g k1 k2 k3 => ?_)))
    · refine hO md f p' g ?_ h2 h3 k2 (rL_bnd k1) k3 (fun j hj => (k4 j hj).trans (hg1 j hj))
      unfold rBk
      rw [h1]
      dsimp only
      rw [k1]
    · refine hE cd pl mat' _ g ?_ k2 k3
      unfold rBk
      rw [h1]
      dsimp only
      rw [k1]
  have eM : ∀ e, rMd β (8 * c) a mo b p = .error e → rBk β (8 * c) a mo b p = .error e := fun e h => by unfold rBk; rw [h]
  refine t_X10_read (n := 1) hc hb hp (by decide) (fun h2 => ?_) (fun h2 mat' => ?_)
  · have h1 : rB β (8 * c) p 1 = .ok (β p, p + 1) := by unfold rB; rw [if_pos h2, val1]
    rw [val1]
    have hbp := hβ p
    have e1 : (1 : Int32) = nI 1 := rfl
    rw [e1, nI_eq', ← e1]
    refine ⟨fun q => ⟨nI_in', ?_⟩, fun q => ?_⟩
    · rw [jup_nI]
      exact rest (lkly a mo b) (p + 1) (by unfold rMd; rw [h1]; exact if_pos q) hlk (may_lk hlk) h2
    · refine t_X10_read (n := 3) hc hb h2 (by decide) (fun g2 => ?_) (fun g2 mat' => ?_)
      · have g1 : rB β (8 * c) (p + 1) 3 = .ok (val β (p + 1) 3, p + 1 + 3) := by unfold rB; rw [if_pos g2]
        have hv := val_lt hβ (p + 1) 3
        have hr : rMd β (8 * c) a mo b p = rM3 a mo b (p + 1) (val β (p + 1) 3) (p + 1 + 3) := by unfold rMd; rw [h1]; dsimp only; rw [if_neg q, g1]
        unfold jn1
        have step : ∀ md : Nat, md = (if val β (p + 1) 3 < lkly a mo b then val β (p + 1) 3 else val β (p + 1) 3 + 1) → wp_X10_may (nI a) (nI b) (nI md) (fun (r_47 : Int32) => ((r_47 = 0 → wp_X10_stop mpl 0 3 (nI (p + 1)) (fun (r_49 : Int32) (mpl_49 : Int32) (mfa_49 : Int32) => ((mfa_49 = 0 → ∃ k : Nat, wl_X10_readBlock_105 (nI b) K (fun (v3_9 : Int32) (mnco_9 : (Nat → Int32)) => wp_X10_readU (nI c) (nI (p + 1 + 3)) mpl_49 mfa_49 mby (fun (r_10 : Int32) (mat_10 : Int32) (mpl_10 : Int32) (mfa_10 : Int32) => jn2 (fun (mpl_11 : Int32) (mfa_11 : Int32) => ∃ k : Nat, wl_X10_readBlock_160 (nI b) r_10 (nI c) (upd mnmo b (nI md)) mby K (fun (v3_37 : Int32) (v5_37 : Int32) (v6_37 : Int32) (mat_37 : Int32) (mpl_37 : Int32) (mfa_37 : Int32) (mnco_37 : (Nat → Int32)) => K mat_37 mpl_37 mfa_37 (upd mnmo b (nI md)) mnco_37) k (nI (p + 1 + 3)) 0 0 mat_10 mpl_11 mfa_11 mnco_9) (fun J_11 => ((r_10 ≤ 16 → J_11 mpl_10 mfa_10) ∧ (¬ r_10 ≤ 16 → wp_X10_stop mpl_10 mfa_10 4 (nI (p + 1 + 3)) (fun (r_39 : Int32) (mpl_39 : Int32) (mfa_39 : Int32) => J_11 mpl_39 mfa_39)))))) k 0 mnco) ∧ (¬ mfa_49 = 0 → K (nI (p + 1 + 3)) mpl_49 mfa_49 (upd mnmo b (nI md)) mnco)))) ∧ (¬ r_47 = 0 → (((0 : Int32) = 0 → ∃ k : Nat, wl_X10_readBlock_105 (nI b) K (fun (v3_9 : Int32) (mnco_9 : (Nat → Int32)) => wp_X10_readU (nI c) (nI (p + 1 + 3)) mpl 0 mby (fun (r_10 : Int32) (mat_10 : Int32) (mpl_10 : Int32) (mfa_10 : Int32) => jn2 (fun (mpl_11 : Int32) (mfa_11 : Int32) => ∃ k : Nat, wl_X10_readBlock_160 (nI b) r_10 (nI c) (upd mnmo b (nI md)) mby K (fun (v3_37 : Int32) (v5_37 : Int32) (v6_37 : Int32) (mat_37 : Int32) (mpl_37 : Int32) (mfa_37 : Int32) (mnco_37 : (Nat → Int32)) => K mat_37 mpl_37 mfa_37 (upd mnmo b (nI md)) mnco_37) k (nI (p + 1 + 3)) 0 0 mat_10 mpl_11 mfa_11 mnco_9) (fun J_11 => ((r_10 ≤ 16 → J_11 mpl_10 mfa_10) ∧ (¬ r_10 ≤ 16 → wp_X10_stop mpl_10 mfa_10 4 (nI (p + 1 + 3)) (fun (r_39 : Int32) (mpl_39 : Int32) (mfa_39 : Int32) => J_11 mpl_39 mfa_39)))))) k 0 mnco) ∧ (¬ (0 : Int32) = 0 → K (nI (p + 1 + 3)) mpl 0 (upd mnmo b (nI md)) mnco))))) := by
          intro md hmd
          have hmd9 : md < 9 := by rw [hmd]; split <;> omega
          refine t_X10_may ha hbb hmd9 (fun my => nay n1 ?_) (fun my => yes rfl (t_X10_stop (nay (by decide) ?_)))
          · refine rest md (p + 1 + 3) ?_ hmd9 my g2
            rw [hr, hmd]
            rw [hmd] at my
            unfold rM3
            rw [if_pos my]
          · refine hE 3 (p + 1) _ _ _ (eM _ ?_) (by decide) (by decide)
            rw [hr]
            rw [hmd] at my
            unfold rM3
            rw [if_neg my]
        rw [nI_lt']
        dsimp only
        rw [jup_nI, jup_nI, jat_nI, jat_nI, upd_s, upd_s]
        refine ⟨fun q2 => ⟨nI_in', yes rfl ⟨nI_in', ?_⟩⟩, fun q2 => ⟨nI_in', yes rfl ⟨nI_in', ?_⟩⟩⟩
        · exact step _ (by rw [if_pos q2])
        · rw [nI_1]
          exact step _ (by rw [if_neg q2])
      · have g1 : rB β (8 * c) (p + 1) 3 = .error (1, p + 1) := by unfold rB; rw [if_neg g2]
        have hr : rBk β (8 * c) a mo b p = .error (1, p + 1) := eM _ (by unfold rMd; rw [h1]; dsimp only; rw [if_neg q, g1])
        unfold jn1
        exact ⟨fun _ => ⟨nI_in', nay n1 (nay n1 (hE 1 (p + 1) _ _ _ hr (by decide) (by decide)))⟩, fun _ => ⟨nI_in', nay n1 (nay n1 (hE 1 (p + 1) _ _ _ hr (by decide) (by decide)))⟩⟩
  · have hr : rBk β (8 * c) a mo b p = .error (1, p) := eM _ (by unfold rMd rB; rw [if_neg h2])
    refine nay (by decide) (t_X10_read_bad n1 ?_)
    unfold jn1
    exact ⟨fun _ => ⟨nI_in', nay n1 (nay n1 (hE 1 (p) _ _ _ hr (by decide) (by decide)))⟩, fun _ => ⟨nI_in', nay n1 (nay n1 (hE 1 (p) _ _ _ hr (by decide) (by decide)))⟩⟩
