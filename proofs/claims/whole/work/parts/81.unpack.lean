/-! the model's whole reading, and unpack -/
theorem m_header {mby : Nat → Int32} {β : Nat → Nat} {c p : Nat} {mx : Int} {mpl : Int32} {K : Int32 → Int32 → Int32 → Int32 → Prop} (hc : c ≤ 8000) (hb : bitsOf mby β (8 * c)) (hβ : ∀ i, β i ≤ 1) (hp : p ≤ 8 * c) (hmx : 0 ≤ mx ∧ mx ≤ 1000)
    (hO : ∀ V p', rN β (8 * c) p mx 2 = .ok (V, p') → (V : Int) ≤ mx → p' ≤ 8 * c → K (nI V) (nI p') mpl 0) (hE : ∀ cd pl r mat', rN β (8 * c) p mx 2 = .error (cd, pl) → 1 ≤ cd → cd ≤ 7 → K r mat' (nI pl) (nI cd)) :
    wp_X10_header (nI c) (nI p) mpl 0 mby (zI mx) K := by
  have n1 : ¬ (1 : Int32) = 0 := by decide
  unfold wp_X10_header jn4
  refine yes rfl (t_X10_readU hc hb hβ hp (fun V p' hU => yes rfl ?_) (fun hU mat' => nay n1 (hE 1 p _ _ (rN_no hU) (by decide) (by decide))))
  have hl := U_lt hβ hU
  rw [zI_nat V, zI_le (by omega)]
  refine ⟨fun q => ?_, fun q => t_X10_stop (hE 2 p _ _ (rN_big hU q) (by decide) (by decide))⟩
  rw [← zI_nat]
  exact hO V p' (rN_ok hU q) q hl.2.1
theorem header_bad {msz mat mpl mfa : Int32} {mby : Nat → Int32} {v : Int32} {K : Int32 → Int32 → Int32 → Int32 → Prop} (hf : ¬ mfa = 0) (h : K 0 mat mpl mfa) : wp_X10_header msz mat mpl mfa mby v K := by
  unfold wp_X10_header jn4
  exact nay hf (nay hf h)
theorem cd_ne {cd : Nat} (h1 : 1 ≤ cd) (h2 : cd ≤ 7) : ¬ nI cd = 0 := nI_ne0' (by omega)
theorem m_read {mby : Nat → Int32} {β : Nat → Nat} {c : Nat} {m0 mnmo mnco mwk : Nat → Int32} {ma md mq mz : Int32} {K : Int32 → Int32 → Int32 → Int32 → Int32 → Int32 → Int32 → (Nat → Int32) → (Nat → Int32) → (Nat → Int32) → (Nat → Int32) → Prop} (hc : c ≤ 8000) (hb : bitsOf mby β (8 * c)) (hβ : ∀ i, β i ≤ 1)
    (hE : ∀ cd pl ma' md' mq' mz' mat' m' mm' mc' mw', rT β (8 * c) m0 = .error (cd, pl) → 1 ≤ cd → cd ≤ 7 → K ma' md' mq' mz' mat' (nI pl) (nI cd) m' mm' mc' mw')
    (hO : ∀ a d q z p0 p mo lv m mm' mc' mw' mat', rHd β (8 * c) = .ok (a, d, q, z, p0) → rAl β (8 * c) a q p0 m0 (a * d) = .ok (p, mo, lv, m) → cln β (8 * c) p → rowU a mo lv mm' mc' (a * d) → K (nI a) (nI d) (nI q) (nI z) mat' (-1) 0 m mm' mc' mw') :
    wp_X10_readAll ma md mq mz (nI c) 0 (-1) 0 m0 mnmo mnco mby mwk K := by
  have n1 : ¬ (1 : Int32) = 0 := by decide
  have eH : ∀ e, rHd β (8 * c) = .error e → rT β (8 * c) m0 = .error e := fun e h => by unfold rT; rw [h]
  unfold wp_X10_readAll
  -- behind a fault
  have bad4 : ∀ (r1 r3 r5 mat' mpl' mfa' : Int32), ¬ mfa' = 0 → (∀ ma' md' mq' mz', K ma' md' mq' mz' mat' mpl' mfa' m0 mnmo mnco mwk) → wp_X10_read (nI c) mat' mpl' mfa' mby 1 mat' (fun (r_7 : Int32) (mat_7 : Int32) (mpl_7 : Int32) (mfa_7 : Int32) => jn1 (fun (t0_8 : Int32) => jz t0_8 ∧ ∃ k : Nat, wl_X10_readAll_58 (r1 + 1) (r3 + 1) r5 (nI c) mby K (fun (v1_19 : Int32) (mat_19 : Int32) (mpl_19 : Int32) (mfa_19 : Int32) (mpic_19 : (Nat → Int32)) (mnmo_19 : (Nat → Int32)) (mnco_19 : (Nat → Int32)) (mwk_19 : (Nat → Int32)) => ((mfa_19 = 0 → ∀ x2_21 : Int32, x2_21 = (8 * nI c) - mat_19 → jn3 (fun (mat_22 : Int32) (mpl_22 : Int32) (mfa_22 : Int32) => wp_X10_stop mpl_22 mfa_22 7 mat_19 (fun (r_23 : Int32) (mpl_23 : Int32) (mfa_23 : Int32) => K (r1 + 1) (r3 + 1) r5 t0_8 mat_22 mpl_23 mfa_23 mpic_19 mnmo_19 mnco_19 mwk_19)) (fun J_22 => ((7 < x2_21 → J_22 mat_19 mpl_19 mfa_19) ∧ (¬ 7 < x2_21 → wp_X10_read (nI c) mat_19 mpl_19 mfa_19 mby x2_21 mat_19 (fun (r_25 : Int32) (mat_25 : Int32) (mpl_25 : Int32) (mfa_25 : Int32) => ((r_25 = 0 → K (r1 + 1) (r3 + 1) r5 t0_8 mat_25 mpl_25 mfa_25 mpic_19 mnmo_19 mnco_19 mwk_19) ∧ (¬ r_25 = 0 → J_22 mat_25 mpl_25 mfa_25))))))) ∧ (¬ mfa_19 = 0 → K (r1 + 1) (r3 + 1) r5 t0_8 mat_19 mpl_19 mfa_19 mpic_19 mnmo_19 mnco_19 mwk_19))) k 0 mat_7 mpl_7 mfa_7 m0 mnmo mnco mwk) (fun J_8 => ((r_7 = 1 → J_8 1) ∧ (¬ r_7 = 1 → J_8 0)))) := by
    intro r1 r3 r5 mat' mpl' mfa' hf hK
    refine t_X10_read_bad hf ?_
    unfold jn1
    refine nay (by decide) ⟨jz0, 1, ?_⟩
    rw [wl_X10_readAll_58]
    exact ⟨fun _ => nay hf (hK _ _ _ _), fun _ => nay hf (nay hf (hK _ _ _ _))⟩
  refine m_header (p := 0) (mx := 7) hc hb hβ (by omega) (by omega) (fun A p1 a1 a2 a3 => ?_) (fun cd pl r mat' h h1 h2 => header_bad (cd_ne h1 h2) (header_bad (cd_ne h1 h2) (bad4 _ _ _ _ _ _ (cd_ne h1 h2) (fun _ _ _ _ => hE cd pl _ _ _ _ _ _ _ _ _ (eH _ (by unfold rHd; rw [h])) h1 h2))))
  refine m_header (mx := 7) hc hb hβ a3 (by omega) (fun D p2 b1 b2 b3 => ?_) (fun cd pl r mat' h h1 h2 => header_bad (cd_ne h1 h2) (bad4 _ _ _ _ _ _ (cd_ne h1 h2) (fun _ _ _ _ => hE cd pl _ _ _ _ _ _ _ _ _ (eH _ (by unfold rHd; rw [a1]; dsimp only; rw [h])) h1 h2)))
  refine m_header (mx := 51) hc hb hβ b3 (by omega) (fun q p3 c1 c2 c3 => ?_) (fun cd pl r mat' h h1 h2 => bad4 _ _ _ _ _ _ (cd_ne h1 h2) (fun _ _ _ _ => hE cd pl _ _ _ _ _ _ _ _ _ (eH _ (by unfold rHd; rw [a1]; dsimp only; rw [b1]; dsimp only; rw [h])) h1 h2))
  refine t_X10_read (n := 1) hc hb c3 (by decide) (fun d2 => ?_) (fun d2 mat' => ?_)
  · have d1 : rB β (8 * c) p3 1 = .ok (β p3, p3 + 1) := by unfold rB; rw [if_pos d2, val1]
    rw [val1]
    have hz := hβ p3
    have hH : rHd β (8 * c) = .ok (A + 1, D + 1, q, β p3, p3 + 1) := by unfold rHd; rw [a1]; dsimp only; rw [b1]; dsimp only; rw [c1]; dsimp only; rw [d1]
    unfold jn1
    generalize hzz : β p3 = z at *
    have hs : 1 ≤ A + 1 ∧ A + 1 ≤ 8 ∧ 1 ≤ D + 1 ∧ D + 1 ≤ 8 := by omega
    have had := ad_le hs
    have hq : q ≤ 51 := by omega
    have ha : 1 ≤ A + 1 ∧ A + 1 ≤ 8 := ⟨hs.1, hs.2.1⟩
    rw [nI_1, nI_1]
    generalize A + 1 = a at *
    generalize D + 1 = d at *
    have eA : ∀ e, rAl β (8 * c) a q (p3 + 1) m0 (a * d) = .error e → rT β (8 * c) m0 = .error e := fun e h => by
      unfold rT; rw [hH]; dsimp only; rw [h]
    have rest : ∃ k : Nat, wl_X10_readAll_58 (nI a) (nI d) (nI q) (nI c) mby K (fun (v1_19 : Int32) (mat_19 : Int32) (mpl_19 : Int32) (mfa_19 : Int32) (mpic_19 : (Nat → Int32)) (mnmo_19 : (Nat → Int32)) (mnco_19 : (Nat → Int32)) (mwk_19 : (Nat → Int32)) => ((mfa_19 = 0 → ∀ x2_21 : Int32, x2_21 = (8 * nI c) - mat_19 → jn3 (fun (mat_22 : Int32) (mpl_22 : Int32) (mfa_22 : Int32) => wp_X10_stop mpl_22 mfa_22 7 mat_19 (fun (r_23 : Int32) (mpl_23 : Int32) (mfa_23 : Int32) => K (nI a) (nI d) (nI q) (nI z) mat_22 mpl_23 mfa_23 mpic_19 mnmo_19 mnco_19 mwk_19)) (fun J_22 => ((7 < x2_21 → J_22 mat_19 mpl_19 mfa_19) ∧ (¬ 7 < x2_21 → wp_X10_read (nI c) mat_19 mpl_19 mfa_19 mby x2_21 mat_19 (fun (r_25 : Int32) (mat_25 : Int32) (mpl_25 : Int32) (mfa_25 : Int32) => ((r_25 = 0 → K (nI a) (nI d) (nI q) (nI z) mat_25 mpl_25 mfa_25 mpic_19 mnmo_19 mnco_19 mwk_19) ∧ (¬ r_25 = 0 → J_22 mat_25 mpl_25 mfa_25))))))) ∧ (¬ mfa_19 = 0 → K (nI a) (nI d) (nI q) (nI z) mat_19 mpl_19 mfa_19 mpic_19 mnmo_19 mnco_19 mwk_19))) k 0 (nI (p3 + 1)) (-1) 0 m0 mnmo mnco mwk := by
      -- the end of the loop
      have fin : ∀ (v1 : Int32) (s : Int32 × Int32 × Int32 × (Nat → Int32) × (Nat → Int32) × (Nat → Int32) × (Nat → Int32)), ((∃ p mo lv, rAl β (8 * c) a q (p3 + 1) m0 (a * d) = .ok (p, mo, lv, s.2.2.2.1) ∧ s.1 = nI p ∧ s.2.1 = -1 ∧ s.2.2.1 = 0 ∧ p ≤ 8 * c ∧ rowU a mo lv s.2.2.2.2.1 s.2.2.2.2.2.1 (a * d)) ∨ (∃ cd pl, rAl β (8 * c) a q (p3 + 1) m0 (a * d) = .error (cd, pl) ∧ 1 ≤ cd ∧ cd ≤ 7 ∧ s.2.1 = nI pl ∧ s.2.2.1 = nI cd)) →
          ((s.2.2.1 = 0 → ∀ x2_21 : Int32, x2_21 = (8 * nI c) - s.1 → jn3 (fun (mat_22 : Int32) (mpl_22 : Int32) (mfa_22 : Int32) => wp_X10_stop mpl_22 mfa_22 7 s.1 (fun (r_23 : Int32) (mpl_23 : Int32) (mfa_23 : Int32) => K (nI a) (nI d) (nI q) (nI z) mat_22 mpl_23 mfa_23 s.2.2.2.1 s.2.2.2.2.1 s.2.2.2.2.2.1 s.2.2.2.2.2.2)) (fun J_22 => ((7 < x2_21 → J_22 s.1 s.2.1 s.2.2.1) ∧ (¬ 7 < x2_21 → wp_X10_read (nI c) s.1 s.2.1 s.2.2.1 mby x2_21 s.1 (fun (r_25 : Int32) (mat_25 : Int32) (mpl_25 : Int32) (mfa_25 : Int32) => ((r_25 = 0 → K (nI a) (nI d) (nI q) (nI z) mat_25 mpl_25 mfa_25 s.2.2.2.1 s.2.2.2.2.1 s.2.2.2.2.2.1 s.2.2.2.2.2.2) ∧ (¬ r_25 = 0 → J_22 mat_25 mpl_25 mfa_25))))))) ∧ (¬ s.2.2.1 = 0 → K (nI a) (nI d) (nI q) (nI z) s.1 s.2.1 s.2.2.1 s.2.2.2.1 s.2.2.2.2.1 s.2.2.2.2.2.1 s.2.2.2.2.2.2)) := by
        intro v1 s hI
        obtain ⟨mat1, mpl1, mfa1, m1, mm1, mc1, mw1⟩ := s
        rcases hI with ⟨p, mo, lv, k1, k2, k3, k4, k5, k6⟩ | ⟨cd, pl, k1, k2, k3, k4, k5⟩
        · dsimp only at k1 k2 k3 k4 k6 ⊢
          subst k2 k3 k4
          refine yes rfl (fun x hx => ?_)
          rw [nI_8, nI_sub' k5] at hx
          subst hx
          unfold jn3
          have eT : ¬ cln β (8 * c) p → rT β (8 * c) m0 = .error (7, p) := fun hcl => by
            unfold rT; rw [hH]; dsimp only; rw [k1]; dsimp only; rw [if_neg hcl]
          have e7 : (7 : Int32) = nI 7 := rfl
          rw [e7, nI_lt', ← e7]
          refine ⟨fun g => t_X10_stop (hE 7 p _ _ _ _ _ _ _ _ _ (eT (fun h => by have := h.1; omega)) (by decide) (by decide)), fun g => ?_⟩
          refine t_X10_read hc hb k5 (by omega) (fun g2 => ?_) (fun g2 => absurd g2 (by omega))
          have hv := val_lt hβ p (8 * c - p)
          have hpw : 2 ^ (8 * c - p) ≤ 2 ^ 7 := Nat.pow_le_pow_right (by decide) (by omega)
          have e0 : (0 : Int32) = nI 0 := rfl
          refine ⟨fun g3 => ?_, fun g3 => t_X10_stop (hE 7 p _ _ _ _ _ _ _ _ _ (eT (fun h => g3 (by rw [h.2]; rfl))) (by decide) (by decide))⟩
          rw [e0, nI_eq'] at g3
          exact hO a d q z (p3 + 1) p mo lv m1 mm1 mc1 mw1 _ hH k1 ⟨by omega, g3⟩ k6
        · dsimp only at k4 k5 ⊢
          subst k4 k5
          exact nay (cd_ne k2 k3) (hE cd pl _ _ _ _ _ _ _ _ _ (eA _ k1) k2 k3)
      refine pk_loop (fun n i (s : Int32 × Int32 × Int32 × (Nat → Int32) × (Nat → Int32) × (Nat → Int32) × (Nat → Int32)) => wl_X10_readAll_58 (nI a) (nI d) (nI q) (nI c) mby K _ n (nI i) s.1 s.2.1 s.2.2.1 s.2.2.2.1 s.2.2.2.2.1 s.2.2.2.2.2.1 s.2.2.2.2.2.2)
        (fun i s => (∃ p mo lv, rAl β (8 * c) a q (p3 + 1) m0 i = .ok (p, mo, lv, s.2.2.2.1) ∧ s.1 = nI p ∧ s.2.1 = -1 ∧ s.2.2.1 = 0 ∧ p ≤ 8 * c ∧ rowU a mo lv s.2.2.2.2.1 s.2.2.2.2.2.1 i) ∨ (∃ cd pl, rAl β (8 * c) a q (p3 + 1) m0 (a * d) = .error (cd, pl) ∧ 1 ≤ cd ∧ cd ≤ 7 ∧ s.2.1 = nI pl ∧ s.2.2.1 = nI cd)) (a * d) 0 (nI (p3 + 1), -1, 0, m0, mnmo, mnco, mwk) (by omega) (Or.inl ⟨p3 + 1, fun _ => 0, fun _ _ => 0, rfl, rfl, rfl, rfl, d2, fun c hc => absurd hc (by omega)⟩) (fun n s hI => ?_) (fun n b s hb2 hI ih => ?_)
      · rw [wl_X10_readAll_58, pk_mul, nI_le']
        exact yes (by omega) (fin 0 s hI)
      · rw [wl_X10_readAll_58, pk_mul, nI_le']
        rcases hI with ⟨p, mo, lv, k1, k2, k3, k4, k5, k6⟩ | ⟨cd, pl, k1, k2, k3, k4, k5⟩
        · obtain ⟨mat1, mpl1, mfa1, m1, mm1, mc1, mw1⟩ := s
          dsimp only at k1 k2 k3 k4 k6 ⊢
          subst k2 k3 k4
          obtain ⟨b1', b2', b3'⟩ := blk hs hb2
          refine nay (by omega) (yes rfl (m_rBk (mo := mo) hc hb hβ k5 ha b3' (fun x hx => ⟨(k6 x hx).1, (k6 x hx).2.1⟩) (fun md f p' g g1 g2 g3 g4 g5 g6 g7 => ?_) (fun cd pl mat' mm g g1 g2 g3 => ?_)))
          · unfold jn2
            rw [jat_nI, upd_s]
            refine yes rfl ⟨nI_in', t_X10_comesBack_mo8 hs hb2 hq g2 g3 g6 (fun i hi => g5 i) (fun mw2 x hx => ?_)⟩
            rw [hx, nI_1]
            exact ih (nI p', -1, 0, _, _, g, mw2) (Or.inl ⟨p', _, _, rAl_s k1 g1, rfl, rfl, rfl, g4, rowU_s k6 g2 g3 g6 g7⟩)
          · unfold jn2
            refine nay (cd_ne g2 g3) (fun x hx => ?_)
            rw [hx, nI_1]
            exact ih (mat', nI pl, nI cd, m1, mm, g, mw1) (Or.inr ⟨cd, pl, rAl_e k1 g1 hb2, g2, g3, rfl, rfl⟩)
        · refine nay (by omega) (nay (by rw [k5]; exact cd_ne k2 k3) (fin 0 s (Or.inr ⟨cd, pl, k1, k2, k3, k4, k5⟩)))
    have hcs : z = 0 ∨ z = 1 := by omega
    rcases hcs with e | e
    · subst e
      exact nay (by decide) ⟨jz0, rest⟩
    · subst e
      exact yes rfl ⟨jz1, rest⟩
  · unfold jn1
    have hr : rT β (8 * c) m0 = .error (1, p3) := eH _ (by unfold rHd; rw [a1]; dsimp only; rw [b1]; dsimp only; rw [c1]; dsimp only; unfold rB; rw [if_neg d2])
    refine nay (by decide) ⟨jz0, 1, ?_⟩
    rw [wl_X10_readAll_58]
    exact ⟨fun _ => nay n1 (hE 1 p3 _ _ _ _ _ _ _ _ _ hr (by decide) (by decide)), fun _ => nay n1 (nay n1 (hE 1 p3 _ _ _ _ _ _ _ _ _ hr (by decide) (by decide)))⟩
