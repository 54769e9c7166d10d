/-! rows that are filled -/
theorem t_X3_clear_12 {K : Int32 → Int32 → (Nat → Int32) → Prop} {X : Int32 → (Nat → Int32) → Prop} (hX : ∀ v px, (∀ j, j < 1024 → px j = 0) → X v px) :
    ∀ (d i n : Nat) (px : Nat → Int32), i + d = 1024 → d < n → (∀ j, j < i → px j = 0) → wl_X3_clear_12 K X n (nI i) px := by
  intro d
  induction d with
  | zero =>
    intro i n px hi hn h0
    obtain ⟨n, rfl⟩ : ∃ k, n = k + 1 := ⟨n - 1, by omega⟩
    rw [wl_X3_clear_12]
    have hi : i = 1024 := by omega
    subst hi
    exact ⟨fun _ => hX _ _ h0, fun c => absurd (by decide) c⟩
  | succ d ih =>
    intro i n px hi hn h0
    obtain ⟨n, rfl⟩ : ∃ k, n = k + 1 := ⟨n - 1, by omega⟩
    rw [wl_X3_clear_12]
    refine ⟨fun c => absurd c (nI_ge (a := i) (b := 1024) (by omega) (by decide)), fun _ => ⟨nI_in', fun x hx => ?_⟩⟩
    rw [hx, nI_1]
    refine ih (i + 1) n _ (by omega) (by omega) ?_
    · intro j hj
      rw [jup_nI, upd_if]
      split
      · rfl
      · exact h0 j (by omega)
theorem t_X3_clear {pa pd : Int32} {px : Nat → Int32} {v1 v2 : Int32} {K : Int32 → Int32 → (Nat → Int32) → Prop} (h : ∀ px', (∀ j, j < 1024 → px' j = 0) → K v1 v2 px') : wp_X3_clear pa pd px v1 v2 K :=
  ⟨1025, t_X3_clear_12 (fun _ px' h1 => h px' h1) 1024 0 1025 px rfl (by decide) (fun j hj => absurd hj (by omega))⟩
theorem t_X10_begin_46 {K : Int32 → Int32 → Int32 → Int32 → Int32 → (Nat → Int32) → (Nat → Int32) → (Nat → Int32) → Prop} {X : Int32 → (Nat → Int32) → (Nat → Int32) → Prop} (hX : ∀ v mpic mcoe, (∀ j, j < 1024 → mpic j = 0) → (∀ j, j < 1024 → mcoe j = 0) → X v mpic mcoe) :
    ∀ (d i n : Nat) (mpic mcoe : Nat → Int32), i + d = 1024 → d < n → (∀ j, j < i → mpic j = 0) → (∀ j, j < i → mcoe j = 0) → wl_X10_begin_46 K X n (nI i) mpic mcoe := by
  intro d
  induction d with
  | zero =>
    intro i n mpic mcoe hi hn h0 h1
    obtain ⟨n, rfl⟩ : ∃ k, n = k + 1 := ⟨n - 1, by omega⟩
    rw [wl_X10_begin_46]
    have hi : i = 1024 := by omega
    subst hi
    exact ⟨fun _ => hX _ _ _ h0 h1, fun c => absurd (by decide) c⟩
  | succ d ih =>
    intro i n mpic mcoe hi hn h0 h1
    obtain ⟨n, rfl⟩ : ∃ k, n = k + 1 := ⟨n - 1, by omega⟩
    rw [wl_X10_begin_46]
    refine ⟨fun c => absurd c (nI_ge (a := i) (b := 1024) (by omega) (by decide)), fun _ => ⟨nI_in', nI_in', fun x hx => ?_⟩⟩
    rw [hx, nI_1]
    refine ih (i + 1) n _ _ (by omega) (by omega) ?_ ?_
    · intro j hj
      rw [jup_nI, upd_if]
      split
      · rfl
      · exact h0 j (by omega)
    · intro j hj
      rw [jup_nI, upd_if]
      split
      · rfl
      · exact h1 j (by omega)
theorem t_X10_begin_75 {K : Int32 → Int32 → Int32 → Int32 → Int32 → (Nat → Int32) → (Nat → Int32) → (Nat → Int32) → Prop} {X : Int32 → (Nat → Int32) → Prop} (hX : ∀ v mmod, (∀ j, j < 64 → mmod j = (-1)) → X v mmod) :
    ∀ (d i n : Nat) (mmod : Nat → Int32), i + d = 64 → d < n → (∀ j, j < i → mmod j = (-1)) → wl_X10_begin_75 K X n (nI i) mmod := by
  intro d
  induction d with
  | zero =>
    intro i n mmod hi hn h0
    obtain ⟨n, rfl⟩ : ∃ k, n = k + 1 := ⟨n - 1, by omega⟩
    rw [wl_X10_begin_75]
    have hi : i = 64 := by omega
    subst hi
    exact ⟨fun _ => hX _ _ h0, fun c => absurd (by decide) c⟩
  | succ d ih =>
    intro i n mmod hi hn h0
    obtain ⟨n, rfl⟩ : ∃ k, n = k + 1 := ⟨n - 1, by omega⟩
    rw [wl_X10_begin_75]
    refine ⟨fun c => absurd c (nI_ge (a := i) (b := 64) (by omega) (by decide)), fun _ => ⟨nI_in', fun x hx => ?_⟩⟩
    rw [hx, nI_1]
    refine ih (i + 1) n _ (by omega) (by omega) ?_
    · intro j hj
      rw [jup_nI, upd_if]
      split
      · rfl
      · exact h0 j (by omega)
/-! the two states -/
def pOk (v : Int32) : Prop := ∃ n : Nat, n ≤ 255 ∧ v = nI n
def rSize (a d : Nat) (pa pd la ld ma md : Int32) : Prop := (1 ≤ a ∧ a ≤ 8 ∧ 1 ≤ d ∧ d ≤ 8) ∧ pa = nI a ∧ pd = nI d ∧ la = nI a ∧ ld = nI d ∧ ma = nI a ∧ md = nI d
def rPic (a d : Nat) (px mpic : Nat → Int32) : Prop := ∀ x y, x < 4 * a → y < 4 * d → px (32 * y + x) = mpic (32 * y + x) ∧ pOk (mpic (32 * y + x))
def rPlan (a d : Nat) (lm lv mmod mcoe : Nat → Int32) : Prop := (∀ b, b < a * d → lm b = mmod b) ∧ ∀ i, i < 16 * (a * d) → lv i = mcoe i
def rQ (lq lz mq mz : Int32) : Prop := (∃ q : Nat, q ≤ 51 ∧ lq = nI q) ∧ mq = lq ∧ mz = lz ∧ (lz = 0 ∨ lz = 1)
def rBy (sc : Int32) (sb : Nat → Int32) (msz : Int32) (mby : Nat → Int32) : Prop := ∃ c : Nat, c ≤ 8000 ∧ sc = nI c ∧ msz = nI c ∧ ∀ i, i < c → sb i &&& 255 = mby i
def Rel (pa pd : Int32) (px : Nat → Int32) (sc : Int32) (sb : Nat → Int32) (rp la ld lq lz : Int32) (lm lv : Nat → Int32) (ma md mq mz msz mpl : Int32) (mpic mmod mcoe mby : Nat → Int32) : Prop :=
  ∃ a d : Nat, rSize a d pa pd la ld ma md ∧ rPic a d px mpic ∧ rPlan a d lm lv mmod mcoe ∧ rQ lq lz mq mz ∧ rBy sc sb msz mby ∧ rp = mpl
theorem t_neg1 {x : Int32} : ¬ (0 ≤ x ∧ x ≤ -1) := fun h => by
  have h1 := Int32.le_iff_toInt_le.mp h.1
  have h2 := Int32.le_iff_toInt_le.mp h.2
  have e1 : (0 : Int32).toInt = 0 := by decide
  have e2 : (-1 : Int32).toInt = -1 := by decide
  omega
theorem in_1_8 {x : Int32} (h : 1 ≤ x ∧ x ≤ 8) : ∃ a : Nat, 1 ≤ a ∧ a ≤ 8 ∧ x = nI a := by
  have h1 := Int32.le_iff_toInt_le.mp h.1
  have h2 := Int32.le_iff_toInt_le.mp h.2
  have e1 : (1 : Int32).toInt = 1 := by decide
  have e2 : (8 : Int32).toInt = 8 := by decide
  refine ⟨x.toInt.toNat, by omega, by omega, ?_⟩
  rw [zI_nat, Int.toNat_of_nonneg (by omega)]
  exact zI_of x
/-- a number from 0 on that isn't above n -/
theorem in_0 {x : Int32} {n : Nat} (hn : n < 2147483648) (h : 0 ≤ x ∧ x ≤ nI n) : ∃ j : Nat, j ≤ n ∧ x = nI j := nI_from h.1 h.2 hn
theorem ad_le {a d : Nat} (h : 1 ≤ a ∧ a ≤ 8 ∧ 1 ≤ d ∧ d ≤ 8) : 1 ≤ a * d ∧ a * d ≤ 64 := ⟨Nat.mul_le_mul h.1 h.2.2.1, Nat.mul_le_mul h.2.1 h.2.2.2⟩
theorem pOk0 : pOk 0 := ⟨0, by decide, rfl⟩
theorem s_begin {pa pd : Int32} {px : Nat → Int32} {sc : Int32} {sb : Nat → Int32} {rp la ld lq lz : Int32} {lm lv : Nat → Int32} {ma md mq mz msz mpl mth : Int32} {mpic mmod mcoe mby : Nat → Int32} {v1 v2 : Int32}
    {C : Int32 → Int32 → Int32 → (Nat → Int32) → Int32 → Int32 → Int32 → Int32 → (Nat → Int32) → (Nat → Int32) → Int32 → Int32 → Int32 → Int32 → Int32 → (Nat → Int32) → (Nat → Int32) → (Nat → Int32) → Prop}
    {Vw : Prop → Prop} (hV : ∀ P : Prop, P → Vw P) (hR : Rel pa pd px sc sb rp la ld lq lz lm lv ma md mq mz msz mpl mpic mmod mcoe mby)
    (hC : ∀ r pa' pd' px' la' ld' lq' lz' lm' lv' ma' md' mq' mz' mth' mpic' mmod' mcoe', mth' = r → Rel pa' pd' px' sc sb rp la' ld' lq' lz' lm' lv' ma' md' mq' mz' msz mpl mpic' mmod' mcoe' mby → C r pa' pd' px' la' ld' lq' lz' lm' lv' ma' md' mq' mz' mth' mpic' mmod' mcoe') :
    wp_L_begin pa pd px la ld lq lz lm lv v1 v2 (fun r pa' pd' px' la' ld' lq' lz' lm' lv' => Vw (wp_X10_begin ma md mq mz mth mpic mmod mcoe v1 v2 (fun ma' md' mq' mz' mth' mpic' mmod' mcoe' => C r pa' pd' px' la' ld' lq' lz' lm' lv' ma' md' mq' mz' mth' mpic' mmod' mcoe'))) := by
  by_cases hv : (1 ≤ v1 ∧ v1 ≤ 8) ∧ (1 ≤ v2 ∧ v2 ≤ 8)
  · obtain ⟨hv1, hv2⟩ := hv
    obtain ⟨a, ha1, ha2, rfl⟩ := in_1_8 hv1
    obtain ⟨d, hd1, hd2, rfl⟩ := in_1_8 hv2
    obtain ⟨a0, d0, h1, h2, h3, h4, h5, h6⟩ := hR
    have hm : ∀ (r : Int32) (pa' pd' : Int32) (px' : Nat → Int32) (la' ld' lq' lz' : Int32) (lm' lv' : Nat → Int32), (∀ j, j < 1024 → px' j = 0) → (∀ j, j < 64 → lm' j = -1) → (∀ j, j < 1024 → lv' j = 0) → r = 0 → pa' = nI a → pd' = nI d → la' = nI a → ld' = nI d → lq' = 0 → lz' = 0 → wp_X10_begin ma md mq mz mth mpic mmod mcoe (nI a) (nI d) (fun ma' md' mq' mz' mth' mpic' mmod' mcoe' => C r pa' pd' px' la' ld' lq' lz' lm' lv' ma' md' mq' mz' mth' mpic' mmod' mcoe') := by
      intro r pa' pd' px' la' ld' lq' lz' lm' lv' e1 e2 e3 hr hpa hpd hla hld hlq hlz
      subst hr hpa hpd hla hld hlq hlz
      refine t_X10_within (fun _ => ?_) (fun c => absurd hv1 c)
      unfold jn1 jn0
      refine ⟨fun c => absurd c (by decide), fun _ => t_X10_within (fun _ => ⟨fun c => absurd c (by decide), fun _ => ?_⟩) (fun c => absurd hv2 c)⟩
      refine t_X10_fails jz0 (fun c => absurd rfl c) (fun _ => ⟨fun _ => ⟨1025, ?_⟩, fun c => absurd rfl c⟩)
      refine t_X10_begin_46 (fun _ mpic' mcoe' f1 f2 => ⟨65, ?_⟩) 1024 0 1025 mpic mcoe rfl (by decide) (fun j hj => absurd hj (by omega)) (fun j hj => absurd hj (by omega))
      refine t_X10_begin_75 (fun _ mmod' f3 => ?_) 64 0 65 mmod rfl (by decide) (fun j hj => absurd hj (by omega))
      have had := ad_le (a := a) (d := d) ⟨ha1, ha2, hd1, hd2⟩
      refine hC 0 _ _ px' _ _ _ _ lm' lv' _ _ _ _ _ mpic' mmod' mcoe' rfl ⟨a, d, ⟨⟨ha1, ha2, hd1, hd2⟩, rfl, rfl, rfl, rfl, rfl, rfl⟩, fun x y hx hy => ?_, ⟨fun b hb => ?_, fun i hi => ?_⟩, ⟨⟨0, by decide, rfl⟩, rfl, rfl, Or.inl rfl⟩, h5, h6⟩
      · rw [e1 _ (by omega), f1 _ (by omega)]; exact ⟨rfl, pOk0⟩
      · rw [e2 b (by omega), f3 b (by omega)]
      · rw [e3 i (by omega), f2 i (by omega)]
    unfold wp_L_begin wp_X9_begin
    refine t_X9_isWithin (fun _ => ?_) (fun c => absurd hv1 c)
    unfold jn0
    refine ⟨fun c => absurd c (by decide), fun _ => t_X9_isWithin (fun _ => ⟨fun c => absurd c (by decide), fun _ => ?_⟩) (fun c => absurd hv2 c)⟩
    refine t_X3_clear (fun px' e1 => t_X4_clear (fun lm' lv' e2 e3 => ?_))
    exact hV _ (hm 0 _ _ px' _ _ _ _ lm' lv' e1 e2 e3 rfl rfl rfl rfl rfl rfl rfl)
  · have hm : wp_X10_begin ma md mq mz mth mpic mmod mcoe v1 v2 (fun ma' md' mq' mz' mth' mpic' mmod' mcoe' => C 1 pa pd px la ld lq lz lm lv ma' md' mq' mz' mth' mpic' mmod' mcoe') := by
      have hf : wp_X10_fails mth 1 1 (fun (r_3 : Int32) (mth_3 : Int32) => ((r_3 = 0 → ∃ k : Nat, wl_X10_begin_46 (fun ma' md' mq' mz' mth' mpic' mmod' mcoe' => C 1 pa pd px la ld lq lz lm lv ma' md' mq' mz' mth' mpic' mmod' mcoe') (fun (v3_13 : Int32) (mpic_13 : (Nat → Int32)) (mcoe_13 : (Nat → Int32)) => ∃ k : Nat, wl_X10_begin_75 (fun ma' md' mq' mz' mth' mpic' mmod' mcoe' => C 1 pa pd px la ld lq lz lm lv ma' md' mq' mz' mth' mpic' mmod' mcoe') (fun (v3_18 : Int32) (mmod_18 : (Nat → Int32)) => C 1 pa pd px la ld lq lz lm lv v1 v2 0 0 mth_3 mpic_13 mmod_18 mcoe_13) k 0 mmod) k 0 mpic mcoe) ∧ (¬ r_3 = 0 → C 1 pa pd px la ld lq lz lm lv ma md mq mz mth_3 mpic mmod mcoe))) :=
        t_X10_fails jz1 (fun _ => ⟨fun c => absurd c (by decide), fun _ => hC 1 _ _ _ _ _ _ _ _ _ _ _ _ _ _ _ _ _ rfl hR⟩) (fun c => absurd c (by decide))
      refine t_X10_within (fun c1 => ?_) (fun c1 => ?_)
      · unfold jn1 jn0
        refine ⟨fun c => absurd c (by decide), fun _ => t_X10_within (fun c2 => absurd ⟨c1, c2⟩ hv) (fun c2 => ⟨fun _ => hf, fun c => absurd rfl c⟩)⟩
      · unfold jn1 jn0
        exact ⟨fun _ => hf, fun c => absurd rfl c⟩
    unfold wp_L_begin wp_X9_begin
    refine t_X9_isWithin (fun c1 => ?_) (fun c1 => ?_)
    · unfold jn0
      exact ⟨fun c => absurd c (by decide), fun _ => t_X9_isWithin (fun c2 => absurd ⟨c1, c2⟩ hv) (fun c2 => ⟨fun _ => hV _ hm, fun c => absurd rfl c⟩)⟩
    · unfold jn0
      exact ⟨fun _ => hV _ hm, fun c => absurd rfl c⟩
