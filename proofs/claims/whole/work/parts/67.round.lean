/-! looking round a block -/
def atP (a c i : Nat) : Nat := 32 * (4 * (c / a) + i / 4) + (4 * (c % a) + i % 4)
def rnd (a b : Nat) (px m : Nat → Int32) : Prop :=
  (0 < b / a → ∀ t, t ≤ 7 → (t ≤ 3 ∨ b % a + 1 < a) → px (32 * (4 * (b / a) - 1) + (4 * (b % a) + t)) = m (32 * (4 * (b / a) - 1) + (4 * (b % a) + t))) ∧
  (0 < b % a → ∀ t, t ≤ 3 → px (32 * (4 * (b / a) + t) + (4 * (b % a) - 1)) = m (32 * (4 * (b / a) + t) + (4 * (b % a) - 1))) ∧
  (0 < b / a → 0 < b % a → px (32 * (4 * (b / a) - 1) + (4 * (b % a) - 1)) = m (32 * (4 * (b / a) - 1) + (4 * (b % a) - 1)))
theorem yes {c A B : Prop} (hc : c) (h : A) : (c → A) ∧ (¬ c → B) := ⟨fun _ => h, fun q => absurd hc q⟩
theorem nay {c A B : Prop} (hc : ¬ c) (h : B) : (c → A) ∧ (¬ c → B) := ⟨fun q => absurd q hc, fun _ => h⟩
theorem t_X2_meanOfSides {a b : Nat} {m fl : Nat → Int32} {fa ff : Int32} {K : Int32 → Prop} (hfa : fa = if 0 < b / a then 1 else 0) (hff : ff = if 0 < b % a then 1 else 0)
    (hok : lnOk fl (lnP m a b) (0 < b / a) (0 < b % a)) (h : K (meanM m a b)) : wp_X2_meanOfSides fa ff fl K := by
  have sT : ∀ G : Int32 → Prop, 0 < b / a → G (sumT m a b) → wp_X2_sumOfSide fl 1 G := by
    intro G hu hG
    have e0 : fl (7 + 1 : Int).toNat = lnT m a b 0 := (hok.u hu (z := 1) (by omega)).trans (lnP_t m a b 0)
    have e1 : fl (7 + 1 * 2 : Int).toNat = lnT m a b 1 := (hok.u hu (z := 2) (by omega)).trans (lnP_t m a b 1)
    have e2 : fl (7 + 1 * 3 : Int).toNat = lnT m a b 2 := (hok.u hu (z := 3) (by omega)).trans (lnP_t m a b 2)
    have e3 : fl (7 + 1 * 4 : Int).toNat = lnT m a b 3 := (hok.u hu (z := 4) (by omega)).trans (lnP_t m a b 3)
    refine t_X2_sum (w := 1) (Or.inl rfl) ?_
    rw [e0, e1, e2, e3]; exact hG
  have sL : ∀ G : Int32 → Prop, 0 < b % a → G (sumL m a b) → wp_X2_sumOfSide fl (-1) G := by
    intro G hl hG
    have e0 : fl (7 + (-1) : Int).toNat = lnL m a b 0 := (hok.l hl (z := -1) (by omega)).trans (lnP_l m a b 0)
    have e1 : fl (7 + (-1) * 2 : Int).toNat = lnL m a b 1 := (hok.l hl (z := -2) (by omega)).trans (lnP_l m a b 1)
    have e2 : fl (7 + (-1) * 3 : Int).toNat = lnL m a b 2 := (hok.l hl (z := -3) (by omega)).trans (lnP_l m a b 2)
    have e3 : fl (7 + (-1) * 4 : Int).toNat = lnL m a b 3 := (hok.l hl (z := -4) (by omega)).trans (lnP_l m a b 3)
    refine t_X2_sum (w := -1) (Or.inr rfl) ?_
    rw [e0, e1, e2, e3]; exact hG
  unfold meanM at h
  unfold wp_X2_meanOfSides jn0 jn1
  by_cases hu : 0 < b / a
  · rw [if_pos hu] at hfa h
    subst hfa
    by_cases hl : 0 < b % a
    · rw [if_pos hl] at hff h
      subst hff
      exact nay (by decide) (nay (by decide) (sT _ hu (sL _ hl h)))
    · rw [if_neg hl] at hff h
      subst hff
      exact nay (by decide) (yes rfl (nay (by decide) (nay (by decide) (sT _ hu h))))
  · rw [if_neg hu] at hfa h
    subst hfa
    by_cases hl : 0 < b % a
    · rw [if_pos hl] at hff h
      subst hff
      exact yes rfl (yes rfl (nay (by decide) (yes rfl (sL _ hl h))))
    · rw [if_neg hl] at hff h
      subst hff
      exact yes rfl (yes rfl (yes rfl h))
theorem t_X2_lookAround {a d b : Nat} {px m fl : Nat → Int32} {fa ff fm : Int32} {K : Int32 → Int32 → Int32 → (Nat → Int32) → Prop} (hs : 1 ≤ a ∧ a ≤ 8 ∧ 1 ≤ d ∧ d ≤ 8) (hb : b < a * d) (hr : rnd a b px m)
    (h : ∀ fa' ff' fl', fa' = (if 0 < b / a then 1 else 0) → ff' = (if 0 < b % a then 1 else 0) → lnOk fl' (lnP m a b) (0 < b / a) (0 < b % a) → K fa' ff' (meanM m a b) fl') : wp_X2_lookAround fa ff fm fl (nI a) px (nI b) K := by
  obtain ⟨h1, h2, h3⟩ := blk hs hb
  have ha : 1 ≤ a ∧ a ≤ 8 := ⟨hs.1, hs.2.1⟩
  obtain ⟨r1, r2, r3⟩ := hr
  unfold wp_X2_lookAround wp_X3_leftOf wp_X3_topOf
  have e4 : ∀ n : Nat, (4 * nI n : Int32) = nI (4 * n) := fun n => pk_mul 4 n
  rw [nr ha h3, nd ha h3, e4, e4]
  refine ⟨nne ha, nne ha, ?_⟩
  unfold jn1
  have le0 : ∀ n : Nat, n < 100 → (nI (4 * n) ≤ 0 ↔ ¬ 0 < n) := fun n hn => by
    have e0 : (0 : Int32) = nI 0 := rfl
    rw [e0, nI_le']; omega
  have fin : ∀ fa' ff' fl', fa' = (if 0 < b / a then 1 else 0) → ff' = (if 0 < b % a then 1 else 0) → lnOk fl' (lnP m a b) (0 < b / a) (0 < b % a) → wp_X2_meanOfSides fa' ff' fl' (fun (r_12 : Int32) => K fa' ff' r_12 fl') :=
    fun fa' ff' fl' q1 q2 q3 => t_X2_meanOfSides q1 q2 q3 (h fa' ff' fl' q1 q2 q3)
  have top : ∀ G : (Nat → Int32) → Prop, 0 < b / a → (∀ fl', (∀ k : Nat, k < 9 → fl' (8 + k) = lnP m a b (k + 1)) → (∀ j, j < 8 → fl' j = fl j) → G fl') → wp_X2_lookAbove fl (nI a) px (nI (4 * (b % a))) (nI (4 * (b / a)) - 1) G := by
    intro G hu hG
    rw [nI_m1]
    refine t_X2_lookAbove ha (by omega) (by omega) (fun fl' f1 f2 => hG fl' (fun k hk => ?_) f2)
    rw [f1 k hk, lnP_t]
    unfold lnT
    have ec : (4 * (b % a) + 4 < 4 * a) ↔ (b % a + 1 < a) := by omega
    simp only [ec]
    refine r1 hu _ ?_ ?_
    · split <;> omega
    · split <;> omega
  have lef : ∀ (fl0 : Nat → Int32) (G : (Nat → Int32) → Prop), 0 < b % a → (∀ fl', (∀ k : Nat, k < 7 → fl' (6 - k) = lnP m a b (-(k + 1))) → (∀ j, 7 ≤ j → fl' j = fl0 j) → G fl') → wp_X2_lookLeft fl0 px (nI (4 * (b % a)) - 1) (nI (4 * (b / a))) G := by
    intro fl0 G hl hG
    rw [nI_m1]
    refine t_X2_lookLeft (by omega) (fun fl' f1 f2 => hG fl' (fun k hk => ?_) f2)
    rw [f1 k hk, lnP_l]
    exact r2 hl _ (by omega)
  by_cases hu : 0 < b / a
  · refine nay (by rw [le0 _ (by omega)]; omega) ⟨jz1, ?_⟩
    by_cases hl : 0 < b % a
    · refine nay (by rw [le0 _ (by omega)]; omega) ⟨jz1, nay (by decide) (top _ hu (fun f1 p1 p2 => nay (by decide) (lef f1 _ hl (fun f2 q1 q2 => nay (by decide) (nay (by decide) ?_)))))⟩
      unfold wp_X3_get
      rw [nI_m1, nI_m1, nI_32]
      refine ⟨nI_in', nI_in' (n := 7), fin 1 1 _ (by rw [if_pos hu]) (by rw [if_pos hl]) ?_⟩
      have e7 : (7 : Int32) = nI 7 := rfl
      rw [e7, jup_nI, jat_nI]
      refine ⟨fun _ k hk => ?_, fun _ k hk => ?_, fun _ _ => ?_⟩
      · rw [upd_if, if_neg (by omega), q2 _ (by omega), p1 k hk]
      · rw [upd_if, if_neg (by omega), q1 k hk]
      · rw [upd_if, if_pos rfl]; exact r3 hu hl
    · refine yes (by rw [le0 _ (by omega)]; omega) ⟨jz0, nay (by decide) (top _ hu (fun f1 p1 p2 => yes rfl (nay (by decide) (yes rfl ?_))))⟩
      exact fin 1 0 _ (by rw [if_pos hu]) (by rw [if_neg hl]) ⟨fun _ => p1, fun c => absurd c hl, fun _ c => absurd c hl⟩
  · refine yes (by rw [le0 _ (by omega)]; omega) ⟨jz0, ?_⟩
    by_cases hl : 0 < b % a
    · refine nay (by rw [le0 _ (by omega)]; omega) ⟨jz1, yes rfl (nay (by decide) (lef fl _ hl (fun f2 q1 q2 => yes rfl ?_)))⟩
      exact fin 0 1 _ (by rw [if_neg hu]) (by rw [if_pos hl]) ⟨fun c => absurd c hu, fun _ => q1, fun c => absurd c hu⟩
    · refine yes (by rw [le0 _ (by omega)]; omega) ⟨jz0, yes rfl (yes rfl (yes rfl ?_))⟩
      exact fin 0 0 _ (by rw [if_neg hu]) (by rw [if_neg hl]) ⟨fun c => absurd c hu, fun c => absurd c hl, fun c => absurd c hu⟩
theorem rnd_pic {a d b : Nat} {px m : Nat → Int32} (hs : 1 ≤ a ∧ a ≤ 8 ∧ 1 ≤ d ∧ d ≤ 8) (hb : b < a * d) (h : rPic a d px m) : rnd a b px m := by
  obtain ⟨h1, h2, h3⟩ := blk hs hb
  refine ⟨fun hu t ht h4 => (h _ _ (by omega) (by omega)).1, fun hl t ht => (h _ _ (by omega) (by omega)).1, fun hu hl => (h _ _ (by omega) (by omega)).1⟩
theorem upOf {P : Prop} [Decidable P] {f : Int32} (h : f = if P then 1 else 0) : (P ∧ f = 1) ∨ (¬ P ∧ f = 0) := by
  by_cases hp : P
  · rw [if_pos hp] at h; exact Or.inl ⟨hp, h⟩
  · rw [if_neg hp] at h; exact Or.inr ⟨hp, h⟩
theorem t_X2_mayUse {a b mode : Nat} {fa ff : Int32} {K : Int32 → Prop} (hm : mode < 9) (hfa : fa = if 0 < b / a then 1 else 0) (hff : ff = if 0 < b % a then 1 else 0) (h1 : mayB (0 < b / a) (0 < b % a) mode → K 1) (h0 : ¬ mayB (0 < b / a) (0 < b % a) mode → K 0) : wp_X2_mayUse fa ff (nI mode) K := by
  unfold wp_X2_mayUse
  exact t_X9_hasNeeded hm (upOf hfa) (upOf hff) (fun c => ⟨jz1, h1 c⟩) (fun c => ⟨jz0, h0 c⟩)
theorem s_foretold {pa pd : Int32} {px : Nat → Int32} {sc : Int32} {sb : Nat → Int32} {lo : Nat → Int64} {rp la ld lq lz : Int32} {lm lv : Nat → Int32} {ma md mq mz msz mpl mth : Int32} {mpic mmod mcoe mby : Nat → Int32} {fa ff fm : Int32} {fl : Nat → Int32} {v1 v2 v3 v4 : Int32}
    {C : Int32 → Int32 → Int32 → Int32 → (Nat → Int32) → (Nat → Int64) → Int32 → Int32 → Prop} {Vw : Prop → Prop} (hV : ∀ P : Prop, P → Vw P) (hR : Rel pa pd px sc sb rp la ld lq lz lm lv ma md mq mz msz mpl mpic mmod mcoe mby)
    (hC : ∀ r fa' ff' fm' fl' lo' b mth', mth' = r → (r = 0 → lo' (0 : Int32).toNatClampNeg = b.toInt64) → C r fa' ff' fm' fl' lo' b mth') :
    wp_L_foretold pa pd px fa ff fm fl lo v1 v2 v3 v4 (fun r fa' ff' fm' fl' lo' => Vw (wp_X10_foretold ma md mth mpic v1 v2 v3 v4 (fun b mth' => C r fa' ff' fm' fl' lo' b mth'))) := by
  obtain ⟨a, d, ⟨hs, rfl, rfl, rfl, rfl, rfl, rfl⟩, h2, -⟩ := hR
  have had := ad_le hs
  have ha : 1 ≤ a ∧ a ≤ 8 := ⟨hs.1, hs.2.1⟩
  unfold wp_L_foretold wp_X9_foretold wp_X3_blocks wp_X10_foretold jn1 jn0
  have hx : ∀ b : Int32, C 1 fa ff fm fl lo b 1 := fun b => hC 1 _ _ _ _ lo b 1 rfl (fun e => absurd e (by decide))
  have hf : ∀ G : Int32 → Int32 → Prop, G 1 1 → wp_X10_fails mth 1 1 G := fun G h => t_fails1 h
  have n0 : ¬ ((1 : Int32) = 0) := by decide
  refine t_X9_isWithin (fun c1 => nay n0 (t_X9_isWithin (fun c2 => nay n0 (t_X9_isWithin (fun c3 => nay n0 (t_X9_isWithin (fun c4 => nay n0 ?_) (fun c4 => yes rfl (hV _ ?_)))) (fun c3 => yes rfl (hV _ ?_)))) (fun c2 => yes rfl (hV _ ?_)))) (fun c1 => yes rfl (hV _ ?_))
  · obtain ⟨b, hb, rfl⟩ := (blk_ix hs v1).mp c1
    obtain ⟨mode, hm, rfl⟩ := in_0 (n := 8) (by omega) c2
    obtain ⟨x, hx, rfl⟩ := in_0 (n := 3) (by omega) c3
    obtain ⟨y, hy, rfl⟩ := in_0 (n := 3) (by omega) c4
    obtain ⟨h1, h2', h3⟩ := blk hs hb
    have good : ∀ (fa' ff' fm' : Int32) (fl' : Nat → Int32) (z : Int32), C 0 fa' ff' fm' fl' (vp_updL lo (0 : Int32).toNatClampNeg z.toInt64) z 0 := fun fa' ff' fm' fl' z => hC 0 _ _ _ _ _ z 0 rfl (fun _ => pk_uLs)
    refine t_X2_lookAround hs hb (rnd_pic hs hb h2) (fun fa' ff' fl' q1 q2 q3 => t_X2_mayUse (by omega) q1 q2 (fun my => nay n0 (t_X2_guess (by omega) (by omega) (by omega) q3 my (hV _ ?_))) (fun my => yes rfl (hV _ ?_)))
    · exact t_X10_within (fun _ => nay n0 (t_X10_within (fun _ => nay n0 (t_X10_within (fun _ => nay n0 (t_X10_within (fun _ => nay n0 (t_fails0 (yes rfl (t_X10_may ha h3 (by omega) (fun _ => nay n0 (t_X10_told hs hb (by omega) (by omega) (by omega) my (good _ _ _ _ _))) (fun c => absurd my c))))) (fun c => absurd c4 c))) (fun c => absurd c3 c))) (fun c => absurd c2 c))) (fun c => absurd c1 c)
    · exact t_X10_within (fun _ => nay n0 (t_X10_within (fun _ => nay n0 (t_X10_within (fun _ => nay n0 (t_X10_within (fun _ => nay n0 (t_fails0 (yes rfl (t_X10_may ha h3 (by omega) (fun c => absurd c my) (fun _ => yes rfl (good _ _ _ _ _)))))) (fun c => absurd c4 c))) (fun c => absurd c3 c))) (fun c => absurd c2 c))) (fun c => absurd c1 c)
  · exact t_X10_within (fun _ => nay n0 (t_X10_within (fun _ => nay n0 (t_X10_within (fun _ => nay n0 (t_X10_within (fun c => absurd c c4) (fun _ => yes rfl (hf _ (nay n0 (hx _)))))) (fun c => absurd c3 c))) (fun c => absurd c2 c))) (fun c => absurd c1 c)
  · exact t_X10_within (fun _ => nay n0 (t_X10_within (fun _ => nay n0 (t_X10_within (fun c => absurd c c3) (fun _ => yes rfl (hf _ (nay n0 (hx _)))))) (fun c => absurd c2 c))) (fun c => absurd c1 c)
  · exact t_X10_within (fun _ => nay n0 (t_X10_within (fun c => absurd c c2) (fun _ => yes rfl (hf _ (nay n0 (hx _)))))) (fun c => absurd c1 c)
  · exact t_X10_within (fun c => absurd c c1) (fun _ => yes rfl (hf _ (nay n0 (hx _))))
