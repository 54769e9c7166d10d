/-! what is read, or the fault and its place -/
noncomputable def rN (β : Nat → Nat) (N p : Nat) (mx : Int) (code : Nat) : Except (Nat × Nat) (Nat × Nat) := by
  classical exact if h : ∃ r : Nat × Nat, U β N p r.1 r.2 then (if (h.choose.1 : Int) ≤ mx then .ok h.choose else .error (code, p)) else .error (1, p)
theorem rN_ch {β : Nat → Nat} {N p V p' : Nat} (h : U β N p V p') (hex : ∃ r : Nat × Nat, U β N p r.1 r.2) : hex.choose = (V, p') := Prod.ext (U_det hex.choose_spec h).1 (U_det hex.choose_spec h).2
theorem rN_ok {β : Nat → Nat} {N p V p' : Nat} {mx : Int} {code : Nat} (h : U β N p V p') (hm : (V : Int) ≤ mx) : rN β N p mx code = .ok (V, p') := by
  have hex : ∃ r : Nat × Nat, U β N p r.1 r.2 := ⟨(V, p'), h⟩
  unfold rN
  rw [dif_pos hex, rN_ch h hex, if_pos hm]
theorem rN_big {β : Nat → Nat} {N p V p' : Nat} {mx : Int} {code : Nat} (h : U β N p V p') (hm : ¬ (V : Int) ≤ mx) : rN β N p mx code = .error (code, p) := by
  have hex : ∃ r : Nat × Nat, U β N p r.1 r.2 := ⟨(V, p'), h⟩
  unfold rN
  rw [dif_pos hex, rN_ch h hex, if_neg hm]
theorem rN_no {β : Nat → Nat} {N p : Nat} {mx : Int} {code : Nat} (h : ∀ V p', ¬ U β N p V p') : rN β N p mx code = .error (1, p) := by
  unfold rN
  rw [dif_neg (fun ⟨r, hr⟩ => h _ _ hr)]
def rB (β : Nat → Nat) (N p n : Nat) : Except (Nat × Nat) (Nat × Nat) := if p + n ≤ N then .ok (val β p n, p + n) else .error (1, p)
def lvV (V : Nat) : Int32 := if V % 2 = 1 then nI ((V + 1) / 2) else -nI ((V + 1) / 2)
noncomputable def rLv (β : Nat → Nat) (N p : Nat) : Except (Nat × Nat) (Int32 × Nat) := match rN β N p 2147483647 6 with
  | .error e => .error e
  | .ok (V, p') => if (V + 1) / 2 = 0 ∨ 2048 < (V + 1) / 2 then .error (6, p) else .ok (lvV V, p')
noncomputable def rLs (β : Nat → Nat) (N : Nat) : Nat → Nat → Nat → (Nat → Int32) → Except (Nat × Nat) (Nat × (Nat → Int32))
  | 0, _, p, f => .ok (p, f)
  | k + 1, pos, p, f => match rN β N p (15 - (pos : Int)) 5 with
    | .error e => .error e
    | .ok (V, p1) => match rLv β N p1 with
      | .error e => .error e
      | .ok (x, p2) => rLs β N k (pos + V + 1) p2 (upd f (pos + V) x)
noncomputable def rM3 (a : Nat) (mo : Nat → Nat) (b p1 r p2 : Nat) : Except (Nat × Nat) (Nat × Nat) := by
  classical exact if mayB (0 < b / a) (0 < b % a) (if r < lkly a mo b then r else r + 1) then .ok (if r < lkly a mo b then r else r + 1, p2) else .error (3, p1)
noncomputable def rMd (β : Nat → Nat) (N a : Nat) (mo : Nat → Nat) (b p : Nat) : Except (Nat × Nat) (Nat × Nat) := match rB β N p 1 with
  | .error e => .error e
  | .ok (v, p1) => if v = 1 then .ok (lkly a mo b, p1) else match rB β N p1 3 with
    | .error e => .error e
    | .ok (r, p2) => rM3 a mo b p1 r p2
noncomputable def rL (β : Nat → Nat) (N p : Nat) : Except (Nat × Nat) (Nat × (Nat → Int32)) := match rN β N p 16 4 with
  | .error e => .error e
  | .ok (k, p2) => rLs β N k 0 p2 (fun _ => 0)
theorem lvV_ok {V : Nat} (h : ¬ ((V + 1) / 2 = 0 ∨ 2048 < (V + 1) / 2)) : bnd 4095 (lvV V) ∧ ¬ lvV V = 0 := by
  have e0 : (0 : Int32) = zI 0 := rfl
  unfold lvV bnd
  split
  · rw [nI_toInt (by omega)]
    exact ⟨by omega, nI_ne0' (by omega)⟩
  · rw [zI_nat, zI_neg, zI_toInt]
    exact ⟨by omega, by rw [e0, zI_eq]; omega⟩
/-! the class -/
theorem c_rN {sb : Nat → Int32} {β : Nat → Nat} {c p code : Nat} {mx : Int} {rf rp : Int32} {K : Int32 → Int32 → Int32 → Int32 → Prop} (hc : c ≤ 8000) (hb : bitsOf sb β (8 * c)) (hβ : ∀ i, β i ≤ 1) (hp : p ≤ 8 * c) (hmx : -1 ≤ mx ∧ mx ≤ 2147483647)
    (hO : ∀ V p', rN β (8 * c) p mx code = .ok (V, p') → V < 65536 → p' ≤ 8 * c → (V : Int) ≤ mx → K (nI V) (nI p') rf rp) (hE : ∀ e rn', rN β (8 * c) p mx code = .error e → K (-1) rn' (nI e.1) (nI e.2)) :
    wp_X0_readNumber (nI p) rf rp (nI c) sb (zI mx) (nI code) K :=
  t_X0_readNumber hc hb hβ hp hmx (fun V p' h1 h2 => hO V p' (rN_ok h1 h2) (U_lt hβ h1).1 (U_lt hβ h1).2.1 h2) (fun V p' h1 h2 => hE (code, p) _ (rN_big h1 h2)) (fun h => hE (1, p) _ (rN_no h))
theorem c_rB {sb : Nat → Int32} {β : Nat → Nat} {c p n : Nat} {rf rp : Int32} {K : Int32 → Int32 → Int32 → Int32 → Prop} (hc : c ≤ 8000) (hb : bitsOf sb β (8 * c)) (hp : p ≤ 8 * c) (hn : n < 32)
    (hO : rB β (8 * c) p n = .ok (val β p n, p + n) → p + n ≤ 8 * c → K (nI (val β p n)) (nI (p + n)) rf rp) (hE : ∀ rn', rB β (8 * c) p n = .error (1, p) → K (-1) rn' (nI 1) (nI p)) : wp_X0_readBits (nI p) rf rp (nI c) sb (nI n) K :=
  t_X0_readBits hc hb hp hn (fun h => hO (if_pos h) h) (fun h => hE _ (if_neg h))
theorem nm1 (V : Nat) (h : V < 65536) : ¬ nI V = -1 := nI_ne_m1 (by omega)
theorem c_rLv {sb : Nat → Int32} {β : Nat → Nat} {c p : Nat} {rf rp : Int32} {K : Int32 → Int32 → Int32 → Int32 → Prop} (hc : c ≤ 8000) (hb : bitsOf sb β (8 * c)) (hβ : ∀ i, β i ≤ 1) (hp : p ≤ 8 * c)
    (hO : ∀ x p', rLv β (8 * c) p = .ok (x, p') → ¬ x = 0 → p' ≤ 8 * c → K x (nI p') rf rp) (hE : ∀ e rn', rLv β (8 * c) p = .error e → K 0 rn' (nI e.1) (nI e.2)) : wp_X0_readLevel (nI p) rf rp (nI c) sb K := by
  unfold wp_X0_readLevel
  refine c_rN (mx := 2147483647) (code := 6) hc hb hβ hp (by omega) (fun V p' h1 h2 h3 h4 => nay (nm1 V h2) (fun x hx => ?_)) (fun e rn' h1 => yes rfl (hE e _ (by unfold rLv; rw [h1])))
  have hr : rLv β (8 * c) p = if (V + 1) / 2 = 0 ∨ 2048 < (V + 1) / 2 then .error (6, p) else .ok (lvV V, p') := by unfold rLv; rw [h1]
  have e2 : (2 : Int32) = nI 2 := rfl
  have e0 : (0 : Int32) = nI 0 := rfl
  have e1 : (1 : Int32) = nI 1 := rfl
  have e2048 : (2048 : Int32) = nI 2048 := rfl
  rw [nI_1, e2, nI_div'] at hx
  subst hx
  unfold jn0 wp_X0_fail
  rw [e2, nI_rem', e2048, nI_le']
  refine ⟨fun q => ?_, fun q => ⟨fun q2 => ?_, fun q2 => ?_⟩⟩
  · rw [e0, nI_eq'] at q
    exact hE (6, p) _ (by rw [hr, if_pos (Or.inl q)])
  · rw [e0, nI_eq'] at q
    have hn : ¬ ((V + 1) / 2 = 0 ∨ 2048 < (V + 1) / 2) := by omega
    rw [if_neg hn] at hr
    have hl := lvV_ok hn
    have hK := hO _ _ hr hl.2 h3
    unfold lvV at hK
    refine ⟨fun q3 => ?_, fun q3 => ?_⟩
    · rw [e1, nI_eq'] at q3
      rw [if_pos q3] at hK; exact hK
    · rw [e1, nI_eq'] at q3
      rw [if_neg q3] at hK; exact hK
  · exact hE (6, p) _ (by rw [hr, if_pos (Or.inr (by omega))])
def blkIs (g f : Nat → Int32) (b : Nat) : Prop := ∀ i, i < 16 → g (16 * b + i) = f i
def offIs (g g0 : Nat → Int32) (b : Nat) : Prop := ∀ j, (j < 16 * b ∨ 16 * b + 16 ≤ j) → g j = g0 j
theorem blk_upd {g f : Nat → Int32} {b k : Nat} {x : Int32} (h : blkIs g f b) (hk : k < 16) : blkIs (upd g (16 * b + k) x) (upd f k x) b := by
  intro i hi
  rw [upd_if, upd_if]
  by_cases e : i = k
  · rw [if_pos (by omega), if_pos e]
  · rw [if_neg (by omega), if_neg e]; exact h i hi
theorem off_upd {g g0 : Nat → Int32} {b k : Nat} {x : Int32} (h : offIs g g0 b) (hk : k < 16) : offIs (upd g (16 * b + k) x) g0 b := by
  intro j hj
  rw [upd_if, if_neg (by omega)]; exact h j hj
theorem c_rL {sb : Nat → Int32} {β : Nat → Nat} {c p b : Nat} {lv : Nat → Int32} {rf rp : Int32} {K : Int32 → Int32 → Int32 → Int32 → (Nat → Int32) → Prop} (hc : c ≤ 8000) (hb : bitsOf sb β (8 * c)) (hβ : ∀ i, β i ≤ 1) (hp : p ≤ 8 * c) (hbb : b < 64) (hlv : blkIs lv (fun _ => 0) b)
    (hO : ∀ p' f lv', rL β (8 * c) p = .ok (p', f) → p' ≤ 8 * c → blkIs lv' f b → offIs lv' lv b → K 1 (nI p') rf rp lv') (hE : ∀ e rn' lv', rL β (8 * c) p = .error e → K 0 rn' (nI e.1) (nI e.2) lv') : wp_X5_readLevels (nI p) rf rp (nI c) sb lv (nI b) K := by
  unfold wp_X5_readLevels
  refine c_rN (mx := 16) (code := 4) hc hb hβ hp (by omega) (fun k p2 h1 h2 h3 h4 => ?_) (fun e rn' h1 => ?_)
  · have hr : rL β (8 * c) p = rLs β (8 * c) k 0 p2 (fun _ => 0) := by unfold rL; rw [h1]
    refine pk_loop (fun n i (s : Int32 × Int32 × Int32 × Int32 × (Nat → Int32)) => wl_X5_readLevels_17 (nI b) (nI k) (nI c) sb K (fun (v4_12 : Int32) (v5_12 : Int32) (rn_12 : Int32) (rf_12 : Int32) (rp_12 : Int32) (lv_12 : (Nat → Int32)) => ((nI k = (-1) → K 0 rn_12 rf_12 rp_12 lv_12) ∧ (¬ nI k = (-1) → K 1 rn_12 rf_12 rp_12 lv_12))) n s.1 (nI i) s.2.1 s.2.2.1 s.2.2.2.1 s.2.2.2.2)
      (fun i s => ∃ pos q f, s.1 = nI pos ∧ s.2.1 = nI q ∧ s.2.2.1 = rf ∧ s.2.2.2.1 = rp ∧ pos ≤ 16 ∧ q ≤ 8 * c ∧ rL β (8 * c) p = rLs β (8 * c) (k - i) pos q f ∧ blkIs s.2.2.2.2 f b ∧ offIs s.2.2.2.2 lv b) k 0 (0, nI p2, rf, rp, lv) (by omega) ⟨0, p2, fun _ => 0, rfl, rfl, rfl, rfl, by omega, h3, hr, hlv, fun j _ => rfl⟩ (fun n s hI => ?_) (fun n i s hi hI ih => ?_)
    · obtain ⟨v4, rn1, rf1, rp1, lv1⟩ := s
      obtain ⟨pos, q, f, a1, a2, a3, a4, a5, a6, a7, a8, a9⟩ := hI
      dsimp only at a1 a2 a3 a4 a8 a9 ⊢
      subst a1 a2 a3 a4
      rw [wl_X5_readLevels_17, nI_le']
      rw [Nat.sub_self] at a7
      exact yes (Nat.le_refl _) (nay (nm1 k h2) (hO q f lv1 a7 a6 a8 a9))
    · obtain ⟨v4, rn1, rf1, rp1, lv1⟩ := s
      obtain ⟨pos, q, f, a1, a2, a3, a4, a5, a6, a7, a8, a9⟩ := hI
      dsimp only at a1 a2 a3 a4 a8 a9 ⊢
      subst a1 a2 a3 a4
      have e15 : (15 : Int32) - nI pos = zI (15 - (pos : Int)) := by
        have : (15 : Int32) = zI 15 := rfl
        rw [this, zI_nat, zI_sub]
      have ek : k - i = (k - (i + 1)) + 1 := by omega
      rw [ek] at a7
      rw [wl_X5_readLevels_17, nI_le', e15]
      refine nay (by omega) (c_rN (code := 5) hc hb hβ a6 (by omega) (fun V p1 g1 g2 g3 g4 => nay (nm1 V g2) ?_) (fun e rn' g1 => yes rfl (hE e _ _ ?_)))
      · refine c_rLv hc hb hβ g3 (fun x p3 k1 k2 k3 => nay k2 (fun y hy => ?_)) (fun e rn' k1 => yes rfl (hE e _ _ ?_))
        · rw [nI_add] at hy
          subst hy
          rw [ix16]
          refine ⟨nI_in', fun y hy w hw => ?_⟩
          rw [hy, hw, nI_1, nI_1, jup_nI]
          refine ih (nI (pos + V + 1), nI p3, rf1, rp1, _) ⟨pos + V + 1, p3, upd f (pos + V) x, rfl, rfl, rfl, rfl, by omega, k3, ?_, blk_upd a8 (by omega), off_upd a9 (by omega)⟩
          rw [a7, rLs, g1]
          dsimp only
          rw [k1]
        · rw [a7, rLs, g1]
          dsimp only
          rw [k1]
      · rw [a7, rLs, g1]
  · refine ⟨1, ?_⟩
    rw [wl_X5_readLevels_17]
    exact yes (by decide) (yes rfl (hE e _ _ (by unfold rL; rw [h1])))
theorem may_lk {a b : Nat} {mo : Nat → Nat} (h : lkly a mo b < 9) : mayB (0 < b / a) (0 < b % a) (lkly a mo b) := by
  by_cases c : 0 < b / a ∧ 0 < b % a
  · obtain ⟨c1, c2⟩ := c
    generalize lkly a mo b = k at *
    have hcs : k = 0 ∨ k = 1 ∨ k = 2 ∨ k = 3 ∨ k = 4 ∨ k = 5 ∨ k = 6 ∨ k = 7 ∨ k = 8 := by omega
    rcases hcs with rfl | rfl | rfl | rfl | rfl | rfl | rfl | rfl | rfl
    · exact c1
    · exact c2
    · exact trivial
    · exact c1
    · exact ⟨c1, c2⟩
    · exact ⟨c1, c2⟩
    · exact ⟨c1, c2⟩
    · exact c1
    · exact c2
  · have : lkly a mo b = 2 := by unfold lkly; rw [if_neg c]
    rw [this]; exact trivial
theorem val1 {β : Nat → Nat} (p : Nat) : val β p 1 = β p := by
  show 2 * 0 + β (p + 0) = _
  rw [Nat.add_zero]; omega
theorem c_rMd {sb : Nat → Int32} {β : Nat → Nat} {c p a b : Nat} {lm : Nat → Int32} {mo : Nat → Nat} {rf rp : Int32} {K : Int32 → Int32 → Int32 → Int32 → (Nat → Int32) → Prop} (hc : c ≤ 8000) (hb : bitsOf sb β (8 * c)) (hβ : ∀ i, β i ≤ 1) (hp : p ≤ 8 * c) (ha : 1 ≤ a ∧ a ≤ 8) (hbb : b < 64) (hlm : ∀ c, c < b → lm c = nI (mo c) ∧ mo c < 9)
    (hO : ∀ md p', rMd β (8 * c) a mo b p = .ok (md, p') → md < 9 → mayB (0 < b / a) (0 < b % a) md → p' ≤ 8 * c → K 1 (nI p') rf rp (upd lm b (nI md))) (hE : ∀ e rn', rMd β (8 * c) a mo b p = .error e → K 0 rn' (nI e.1) (nI e.2) lm) : wp_X5_readMode (nI p) rf rp (nI c) sb (nI a) lm (nI b) K := by
  have hlk : lkly a mo b < 9 := lkly_lt (fun c hc => (hlm c hc).2) (fun _ => by omega)
  unfold wp_X5_readMode
  refine t_X4_likelyMode ha hbb hlm (c_rB (n := 1) hc hb hp (by decide) (fun h1 h2 => ?_) (fun rn' h1 => yes rfl (hE (1, p) _ (by unfold rMd; rw [h1]))))
  rw [val1] at h1 ⊢
  have hbp := hβ p
  refine nay (nm1 _ (by omega)) ?_
  have e1 : (1 : Int32) = nI 1 := rfl
  rw [e1, nI_eq', ← e1]
  refine ⟨fun q => ⟨nI_in', ?_⟩, fun q => ?_⟩
  · rw [jup_nI]
    exact hO (lkly a mo b) (p + 1) (by unfold rMd; rw [h1]; exact if_pos q) hlk (may_lk hlk) h2
  · refine c_rB (n := 3) hc hb h2 (by decide) (fun g1 g2 => ?_) (fun rn' g1 => yes rfl (hE (1, p + 1) _ (by unfold rMd; rw [h1]; dsimp only; rw [if_neg q, g1])))
    have hv := val_lt hβ (p + 1) 3
    refine nay (nm1 _ (by omega)) ?_
    unfold jn1
    have hr : rMd β (8 * c) a mo b p = rM3 a mo b (p + 1) (val β (p + 1) 3) (p + 1 + 3) := by unfold rMd; rw [h1]; dsimp only; rw [if_neg q, g1]
    have step : ∀ md : Nat, md = (if val β (p + 1) 3 < lkly a mo b then val β (p + 1) 3 else val β (p + 1) 3 + 1) → wp_X4_hasAbove (nI a) (nI b) (fun (r_8 : Int32) => wp_X4_hasLeft (nI a) (nI b) (fun (r_9 : Int32) => wp_X9_hasNeeded (nI md) r_8 r_9 (fun (r_10 : Int32) => ((r_10 = 0 → wp_X0_fail rf rp 3 (nI (p + 1)) (fun (rf_14 : Int32) (rp_14 : Int32) => K 0 (nI (p + 1 + 3)) rf_14 rp_14 lm)) ∧ (¬ r_10 = 0 → vp_in (nI b) 64 ∧ K 1 (nI (p + 1 + 3)) rf rp (jup lm (nI b) (nI md))))))) := by
      intro md hmd
      have hmd9 : md < 9 := by rw [hmd]; split <;> omega
      refine t_X4_hasAbove ha hbb (t_X4_hasLeft ha hbb (t_X9_hasNeeded hmd9 (upOf rfl) (upOf rfl) (fun my => nay (by decide) ⟨nI_in', ?_⟩) (fun my => yes rfl ?_)))
      · rw [jup_nI]
        refine hO md _ ?_ hmd9 my g2
        rw [hr, hmd]
        rw [hmd] at my
        unfold rM3
        rw [if_pos my]
      · refine hE (3, p + 1) _ ?_
        rw [hr]
        rw [hmd] at my
        unfold rM3
        rw [if_neg my]
    rw [nI_le']
    refine ⟨fun q2 => ?_, fun q2 => ?_⟩
    · rw [nI_1]
      exact step _ (by rw [if_neg (by omega)])
    · exact step _ (by rw [if_pos (by omega)])
