/-! bits read -/
def bitsOf (f : Nat → Int32) (β : Nat → Nat) (N : Nat) : Prop := ∀ i, i < N → (f (i / 8) >>> (nI (7 - i % 8) &&& 31)) &&& 1 = nI (β i)
theorem b_1 : ∀ i, i < 32 → bt 1 i = decide (i = 0) := by decide +kernel
theorem bit1 (x : Int32) {s : Nat} (hs : s < 32) : (x >>> (nI s &&& 31)) &&& 1 = nI (if bt x s then 1 else 0) := by
  refine b_ext (fun i hi => ?_)
  rw [b_and, b_sshr s hs x hi, b_1 i hi]
  by_cases h : i = 0
  · subst h
    rw [if_pos (by omega), Nat.add_zero]
    cases hb : bt x s
    · simp [b_0, nI_0]
    · simp
      exact (b_1 0 (by decide)).trans (by decide)
  · have : decide (i = 0) = false := decide_eq_false h
    rw [this, Bool.and_false]
    cases hb : bt x s
    · simp [b_0, nI_0]
    · simp
      exact (b_1 i hi).trans this
def betaOf (f : Nat → Int32) (i : Nat) : Nat := if bt (f (i / 8)) (7 - i % 8) then 1 else 0
theorem beta_le (f : Nat → Int32) (i : Nat) : betaOf f i ≤ 1 := by
  unfold betaOf; split <;> omega
theorem bits_m (f : Nat → Int32) (N : Nat) : bitsOf f (betaOf f) N := fun i _ => bit1 _ (by omega)
theorem bits_c {sb mby : Nat → Int32} {c : Nat} (h : ∀ i, i < c → sb i &&& 255 = mby i) : bitsOf sb (betaOf mby) (8 * c) := by
  intro i hi
  rw [bit1 _ (by omega)]
  unfold betaOf
  have e := h (i / 8) (by omega)
  have : bt (sb (i / 8)) (7 - i % 8) = bt (mby (i / 8)) (7 - i % 8) := by
    rw [← e, b_and, b_255, decide_eq_true (by omega), Bool.and_true]
  rw [this]
/-- a number of bits from a place on -/
def val (β : Nat → Nat) (p n : Nat) : Nat := pvf (fun t => β (p + t)) n
theorem val_lt {β : Nat → Nat} (hβ : ∀ i, β i ≤ 1) (p n : Nat) : val β p n < 2 ^ n := pvf_lt n (fun _ _ => hβ _)
theorem t_X7_bitAt {sb : Nat → Int32} {β : Nat → Nat} {N i : Nat} {K : Int32 → Prop} (hb : bitsOf sb β N) (hN : N ≤ 64000) (hi : i < N) (h : K (nI (β i))) : wp_X7_bitAt sb (nI i) K := by
  unfold wp_X7_bitAt
  have e8 : (8 : Int32) = nI 8 := rfl
  have e7 : (7 : Int32) = nI 7 := rfl
  rw [e8, e7, nI_div', nI_rem', nI_sub' (by omega)]
  refine ⟨nI_in', ?_⟩
  rw [jat_nI, hb i hi]; exact h
theorem nI_8 (c : Nat) : (8 * nI c : Int32) = nI (8 * c) := pk_mul 8 c
theorem t_X0_readBits {sb : Nat → Int32} {β : Nat → Nat} {c p n : Nat} {rf rp : Int32} {K : Int32 → Int32 → Int32 → Int32 → Prop} (hc : c ≤ 8000) (hb : bitsOf sb β (8 * c)) (hp : p ≤ 8 * c) (hn : n < 32)
    (hO : p + n ≤ 8 * c → K (nI (val β p n)) (nI (p + n)) rf rp) (hF : ¬ p + n ≤ 8 * c → K (-1) (nI p) 1 (nI p)) : wp_X0_readBits (nI p) rf rp (nI c) sb (nI n) K := by
  unfold wp_X0_readBits wp_X0_left wp_X0_fail
  rw [nI_8, nI_sub' hp]
  dsimp only
  rw [nI_le']
  refine ⟨fun q => ?_, fun q => hF (by omega)⟩
  refine loopS (fun k i s => wl_X0_readBits_23 (nI n) (nI p) sb K (fun (v2_7 : Int32) (v3_7 : Int32) => K v2_7 (nI p + nI n) rf rp) k s (nI i)) (fun i => nI (val β p i)) n (fun k => ?_) (fun k i hi ih => ?_)
  · rw [wl_X0_readBits_23, nI_le']
    refine yes (Nat.le_refl _) ?_
    rw [nI_add]; exact hO (by omega)
  · rw [wl_X0_readBits_23, nI_le', nI_add p i]
    refine nay (by omega) (t_X7_bitAt hb (by omega) (by omega) (fun x hx y hy => ?_))
    have e2 : (2 : Int32) = nI 2 := rfl
    rw [hx, hy, nI_1, e2, pk_mul, nI_add (2 * val β p i)]
    exact ih
/-- a whole number that stands at p: its value, and the place behind it -/
def U (β : Nat → Nat) (N p V p' : Nat) : Prop := ∃ z, z < 16 ∧ (∀ t, t < z → β (p + t) = 0) ∧ β (p + z) = 1 ∧ p + 2 * z + 1 ≤ N ∧ V + 1 = 2 ^ z + val β (p + z + 1) z ∧ p' = p + 2 * z + 1
theorem U_det {β : Nat → Nat} {N p V p' V2 p2 : Nat} (h : U β N p V p') (h2 : U β N p V2 p2) : V = V2 ∧ p' = p2 := by
  obtain ⟨z, a1, a2, a3, a4, a5, a6⟩ := h
  obtain ⟨y, b1, b2, b3, b4, b5, b6⟩ := h2
  have : z = y := by
    rcases Nat.lt_trichotomy z y with c | c | c
    · have := b2 z c; omega
    · exact c
    · have := a2 y c; omega
  subst this
  omega
theorem U_lt {β : Nat → Nat} (hβ : ∀ i, β i ≤ 1) {N p V p' : Nat} (h : U β N p V p') : V < 65536 ∧ p' ≤ N ∧ p < p' := by
  obtain ⟨z, a1, a2, a3, a4, a5, a6⟩ := h
  have h1 := val_lt hβ (p + z + 1) z
  have h2 : 2 ^ z ≤ 2 ^ 15 := Nat.pow_le_pow_right (by decide) (by omega)
  omega
theorem val_head (β : Nat → Nat) (p : Nat) : ∀ n, val β p (n + 1) = β p * 2 ^ n + val β (p + 1) n
  | 0 => by
    show 2 * 0 + β (p + 0) = β p * 2 ^ 0 + 0
    rw [Nat.add_zero, Nat.pow_zero]; omega
  | n + 1 => by
    have ih := val_head β p n
    show 2 * val β p (n + 1) + β (p + (n + 1)) = β p * 2 ^ (n + 1) + (2 * val β (p + 1) n + β (p + 1 + n))
    rw [ih, Nat.pow_succ]
    have e : p + (n + 1) = p + 1 + n := by omega
    rw [e, ← Nat.mul_assoc]
    generalize β p * 2 ^ n = P
    omega
theorem t_X0_countZeros {sb : Nat → Int32} {β : Nat → Nat} {c p : Nat} {K : Int32 → Prop} (hc : c ≤ 8000) (hb : bitsOf sb β (8 * c)) (hβ : ∀ i, β i ≤ 1) (hp : p ≤ 8 * c)
    (h : ∀ z, z ≤ 16 → p + z ≤ 8 * c → (∀ t, t < z → β (p + t) = 0) → (z = 16 ∨ p + z = 8 * c ∨ (p + z < 8 * c ∧ β (p + z) = 1)) → K (nI z)) : wp_X0_countZeros (nI p) (nI c) sb K := by
  have go : ∀ (d i n : Nat), i + d = 16 → d < n → p + i ≤ 8 * c → (∀ t, t < i → β (p + t) = 0) → wl_X0_countZeros_2 (nI p) (nI c) sb K (fun (v1_7 : Int32) => K v1_7) n (nI i) := by
    intro d
    induction d with
    | zero =>
      intro i n hi hn h1 h2
      obtain ⟨n, rfl⟩ : ∃ k, n = k + 1 := ⟨n - 1, by omega⟩
      have hi : i = 16 := by omega
      subst hi
      rw [wl_X0_countZeros_2]
      exact yes (by decide) (h 16 (by omega) h1 h2 (Or.inl rfl))
    | succ d ih =>
      intro i n hi hn h1 h2
      obtain ⟨n, rfl⟩ : ∃ k, n = k + 1 := ⟨n - 1, by omega⟩
      rw [wl_X0_countZeros_2]
      unfold wp_X0_left
      have e15 : (15 : Int32) = nI 15 := rfl
      rw [e15, nI_lt', nI_8, nI_sub' hp, nI_add]
      dsimp only
      rw [nI_le']
      refine nay (by omega) ⟨fun q => h i (by omega) h1 h2 (Or.inr (Or.inl (by omega))), fun q => t_X7_bitAt hb (by omega) (by omega) ?_⟩
      have hbi := hβ (p + i)
      have hcs : β (p + i) = 0 ∨ β (p + i) = 1 := by omega
      rcases hcs with e | e
      · rw [e]
        refine yes rfl (fun x hx => ?_)
        rw [hx, nI_1]
        refine ih (i + 1) n (by omega) (by omega) (by omega) (fun t ht => ?_)
        rcases Nat.lt_or_ge t i with c2 | c2
        · exact h2 t c2
        · have : t = i := by omega
          rw [this]; exact e
      · rw [e]
        exact nay (by decide) (h i (by omega) h1 h2 (Or.inr (Or.inr ⟨by omega, e⟩)))
  exact ⟨17, go 16 0 17 rfl (by omega) (by omega) (fun t ht => absurd ht (by omega))⟩
theorem t_X0_readNumber {sb : Nat → Int32} {β : Nat → Nat} {c p : Nat} {mx : Int} {code : Int32} {rf rp : Int32} {K : Int32 → Int32 → Int32 → Int32 → Prop} (hc : c ≤ 8000) (hb : bitsOf sb β (8 * c)) (hβ : ∀ i, β i ≤ 1) (hp : p ≤ 8 * c) (hmx : -1 ≤ mx ∧ mx ≤ 2147483647)
    (hO : ∀ V p', U β (8 * c) p V p' → (V : Int) ≤ mx → K (nI V) (nI p') rf rp) (hX : ∀ V p', U β (8 * c) p V p' → ¬ (V : Int) ≤ mx → K (-1) (nI p') code (nI p)) (hF : (∀ V p', ¬ U β (8 * c) p V p') → K (-1) (nI p) 1 (nI p)) :
    wp_X0_readNumber (nI p) rf rp (nI c) sb (zI mx) code K := by
  unfold wp_X0_readNumber
  refine t_X0_countZeros hc hb hβ hp (fun z hz1 hz2 hz3 hz4 => ?_)
  unfold jn0 wp_X0_left wp_X0_fail
  have e15 : (15 : Int32) = nI 15 := rfl
  have e2 : (2 : Int32) = nI 2 := rfl
  rw [e15, nI_lt', nI_8, nI_sub' hp, e2, pk_mul, nI_1, nI_add, nI_1]
  dsimp only
  rw [nI_le']
  refine ⟨fun q => hF ?_, fun q => ⟨fun q2 => ?_, fun q2 => hF ?_⟩⟩
  · rintro V p' ⟨y, b1, b2, b3, b4, b5, b6⟩
    have := hz3 y (by omega); omega
  · have h1 : β (p + z) = 1 := by
      rcases hz4 with e | e | e
      · omega
      · omega
      · exact e.2
    refine t_X0_readBits hc hb (by omega) (by omega) (fun _ x hx => ?_) (fun q3 => absurd q3 (by omega))
    have hv := val_lt hβ (p + z + 1) z
    have h2 : 2 ^ z ≤ 2 ^ 15 := Nat.pow_le_pow_right (by decide) (by omega)
    have h3 : 0 < 2 ^ z := Nat.two_pow_pos z
    rw [val_head, h1, Nat.one_mul, nI_m1 (by omega)] at hx
    subst hx
    have hU : U β (8 * c) p (2 ^ z + val β (p + z + 1) z - 1) (p + z + (z + 1)) := ⟨z, by omega, hz3, h1, by omega, by omega, by omega⟩
    have hl := U_lt hβ hU
    rw [zI_nat, zI_le (by omega)]
    refine ⟨fun q3 => ?_, fun q3 => ?_⟩
    · rw [← zI_nat]; exact hO _ _ hU q3
    · exact hX _ _ hU q3
  · rintro V p' ⟨y, b1, b2, b3, b4, b5, b6⟩
    rcases Nat.lt_trichotomy y z with e | e | e
    · have := hz3 y e; omega
    · omega
    · have := b2 z e
      omega
/-! the model reads -/
theorem t_X10_stop {mpl : Int32} {v1 v2 : Int32} {K : Int32 → Int32 → Int32 → Prop} (h : K 0 v2 v1) : wp_X10_stop mpl 0 v1 v2 K := yes rfl h
theorem t_X10_read_bad {msz mat mpl mfa : Int32} {mby : Nat → Int32} {v1 v2 : Int32} {K : Int32 → Int32 → Int32 → Int32 → Prop} (hf : ¬ mfa = 0) (h : K 0 mat mpl mfa) : wp_X10_read msz mat mpl mfa mby v1 v2 K := by
  refine ⟨1, ?_⟩
  rw [wl_X10_read_5]
  exact ⟨fun _ => h, fun _ => nay hf h⟩
theorem t_X10_read {mby : Nat → Int32} {β : Nat → Nat} {c p n : Nat} {mpl v2 : Int32} {K : Int32 → Int32 → Int32 → Int32 → Prop} (hc : c ≤ 8000) (hb : bitsOf mby β (8 * c)) (hp : p ≤ 8 * c) (hn : n < 32)
    (hO : p + n ≤ 8 * c → K (nI (val β p n)) (nI (p + n)) mpl 0) (hF : ¬ p + n ≤ 8 * c → ∀ mat', K 0 mat' v2 1) : wp_X10_read (nI c) (nI p) mpl 0 mby (nI n) v2 K := by
  have go : ∀ (d i k : Nat), i + d = n → d < k → p + i ≤ 8 * c → wl_X10_read_5 (nI n) v2 (nI c) mpl 0 mby K (fun (v3_9 : Int32) (v4_9 : Int32) (mat_9 : Int32) => K v3_9 mat_9 mpl 0) k (nI (val β p i)) (nI i) (nI (p + i)) := by
    intro d
    induction d with
    | zero =>
      intro i k hi hk h1
      obtain ⟨k, rfl⟩ : ∃ j, k = j + 1 := ⟨k - 1, by omega⟩
      have hi : i = n := by omega
      subst hi
      rw [wl_X10_read_5, nI_le']
      exact yes (Nat.le_refl _) (hO h1)
    | succ d ih =>
      intro i k hi hk h1
      obtain ⟨k, rfl⟩ : ∃ j, k = j + 1 := ⟨k - 1, by omega⟩
      rw [wl_X10_read_5, nI_le', nI_8, nI_eq']
      refine nay (by omega) (yes rfl ⟨fun q => t_X10_stop (hF (by omega) _), fun q => ?_⟩)
      have e8 : (8 : Int32) = nI 8 := rfl
      have e7 : (7 : Int32) = nI 7 := rfl
      have e2 : (2 : Int32) = nI 2 := rfl
      rw [e8, e7, nI_div', nI_rem', nI_sub' (by omega)]
      refine ⟨nI_in', fun x hx y hy => ?_⟩
      rw [jat_nI, hb (p + i) (by omega), e2, pk_mul, nI_add] at hx
      rw [hx, hy, nI_1, nI_1]
      exact ih (i + 1) k (by omega) (by omega) (by omega)
  exact ⟨n + 1, go n 0 (n + 1) (by omega) (by omega) (by omega)⟩
theorem t_X10_readU {mby : Nat → Int32} {β : Nat → Nat} {c p : Nat} {mpl : Int32} {K : Int32 → Int32 → Int32 → Int32 → Prop} (hc : c ≤ 8000) (hb : bitsOf mby β (8 * c)) (hβ : ∀ i, β i ≤ 1) (hp : p ≤ 8 * c)
    (hO : ∀ V p', U β (8 * c) p V p' → K (nI V) (nI p') mpl 0) (hF : (∀ V p', ¬ U β (8 * c) p V p') → ∀ mat', K 0 mat' (nI p) 1) :
    wp_X10_readU (nI c) (nI p) mpl 0 mby K := by
  have n1 : ¬ (1 : Int32) = 0 := by decide
  have bad : ∀ (v mat' : Int32), (∀ V p', ¬ U β (8 * c) p V p') → wp_X10_read (nI c) mat' (nI p) 1 mby v (nI p) (fun (r_9 : Int32) (mat_9 : Int32) (mpl_9 : Int32) (mfa_9 : Int32) => ((mfa_9 = 0 → K (((1 <<< (v &&& 31)) - 1) + r_9) mat_9 mpl_9 mfa_9) ∧ (¬ mfa_9 = 0 → K 0 mat_9 mpl_9 mfa_9))) := fun v mat' hU => t_X10_read_bad n1 (nay n1 (hF hU _))
  have go : ∀ (d i n : Nat), i + d = 15 → d + 1 < n → p + i ≤ 8 * c → (∀ t, t < i → β (p + t) = 0) → wl_X10_readU_7 (nI p) (nI c) mby K (fun (v2_8 : Int32) (mat_8 : Int32) (mpl_8 : Int32) (mfa_8 : Int32) => wp_X10_read (nI c) mat_8 mpl_8 mfa_8 mby v2_8 (nI p) (fun (r_9 : Int32) (mat_9 : Int32) (mpl_9 : Int32) (mfa_9 : Int32) => ((mfa_9 = 0 → K (((1 <<< (v2_8 &&& 31)) - 1) + r_9) mat_9 mpl_9 mfa_9) ∧ (¬ mfa_9 = 0 → K 0 mat_9 mpl_9 mfa_9)))) n (nI i) (nI (p + i)) mpl 0 := by
    intro d
    induction d with
    | zero =>
      intro i n hi hn h1 h2
      obtain ⟨n, rfl⟩ : ∃ j, n = j + 2 := ⟨n - 2, by omega⟩
      have hi : i = 15 := by omega
      subst hi
      rw [wl_X10_readU_7]
      refine yes rfl (t_X10_read (n := 1) hc hb h1 (by decide) (fun q => ?_) (fun q mat' => ?_))
      · have hbi := hβ (p + 15)
        have ev : val β (p + 15) 1 = β (p + 15) := by show 2 * 0 + β (p + 15 + 0) = _; rw [Nat.add_zero]; omega
        rw [ev]
        have hcs : β (p + 15) = 0 ∨ β (p + 15) = 1 := by omega
        rcases hcs with e | e
        · rw [e]
          have hU : ∀ V p', ¬ U β (8 * c) p V p' := by
            rintro V p' ⟨y, b1, b2, b3, b4, b5, b6⟩
            rcases Nat.lt_or_ge y 15 with c2 | c2
            · have := h2 y c2; omega
            · have : y = 15 := by omega
              subst this; omega
          refine yes rfl (fun x hx => ?_)
          rw [hx, nI_1]
          refine nay (by decide) (yes rfl (t_X10_stop ?_))
          rw [wl_X10_readU_7]
          exact nay n1 (bad _ _ hU)
        · rw [e]
          refine nay n1 ?_
          refine t_X10_read hc hb (by omega) (by decide) (fun q2 => yes rfl ?_) (fun q2 mat' => nay n1 (hF ?_ _))
          · have hU : U β (8 * c) p (2 ^ 15 - 1 + val β (p + 15 + 1) 15) (p + 15 + 1 + 15) := ⟨15, by decide, h2, e, by omega, by omega, by omega⟩
            have ek : ((1 <<< (nI 15 &&& 31)) - 1) + nI (val β (p + 15 + 1) 15) = nI (2 ^ 15 - 1 + val β (p + 15 + 1) 15) := by
              have : ((1 : Int32) <<< (nI 15 &&& 31)) - 1 = nI (2 ^ 15 - 1) := by decide +kernel
              rw [this, nI_add]
            rw [ek]; exact hO _ _ hU
          · rintro V p' ⟨y, b1, b2, b3, b4, b5, b6⟩
            rcases Nat.lt_or_ge y 15 with c2 | c2
            · have := h2 y c2; omega
            · omega
      · have hU : ∀ V p', ¬ U β (8 * c) p V p' := by
          rintro V p' ⟨y, b1, b2, b3, b4, b5, b6⟩
          rcases Nat.lt_or_ge y 15 with c2 | c2
          · have := h2 y c2; omega
          · omega
        refine yes rfl (fun x hx => ?_)
        rw [hx, nI_1]
        refine nay (by decide) (nay n1 ?_)
        rw [wl_X10_readU_7]
        exact nay n1 (bad _ _ hU)
    | succ d ih =>
      intro i n hi hn h1 h2
      obtain ⟨n, rfl⟩ : ∃ j, n = j + 2 := ⟨n - 2, by omega⟩
      have e15 : (15 : Int32) = nI 15 := rfl
      rw [wl_X10_readU_7]
      refine yes rfl (t_X10_read (n := 1) hc hb h1 (by decide) (fun q => ?_) (fun q mat' => ?_))
      · have hbi := hβ (p + i)
        have ev : val β (p + i) 1 = β (p + i) := by show 2 * 0 + β (p + i + 0) = _; rw [Nat.add_zero]; omega
        rw [ev]
        have hcs : β (p + i) = 0 ∨ β (p + i) = 1 := by omega
        rcases hcs with e | e
        · rw [e]
          refine yes rfl (fun x hx => ?_)
          rw [hx, nI_1, e15, nI_le']
          refine yes (by omega) (ih (i + 1) (n + 1) (by omega) (by omega) (by omega) (fun t ht => ?_))
          rcases Nat.lt_or_ge t i with c2 | c2
          · exact h2 t c2
          · have : t = i := by omega
            rw [this]; exact e
        · rw [e]
          refine nay n1 ?_
          have hv := val_lt hβ (p + i + 1) i
          have h3 : 0 < 2 ^ i := Nat.two_pow_pos i
          have h4 : 2 ^ i ≤ 2 ^ 15 := Nat.pow_le_pow_right (by decide) (by omega)
          refine t_X10_read hc hb (by omega) (by omega) (fun q2 => yes rfl ?_) (fun q2 mat' => nay n1 (hF ?_ _))
          · have hU : U β (8 * c) p (2 ^ i - 1 + val β (p + i + 1) i) (p + i + 1 + i) := ⟨i, by omega, h2, e, by omega, by omega, by omega⟩
            have ek : ((1 <<< (nI i &&& 31)) - 1) + nI (val β (p + i + 1) i) = nI (2 ^ i - 1 + val β (p + i + 1) i) := by
              have e1 : (1 : Int32) = nI 1 := rfl
              rw [e1, pk_shlN _ _ (sh31 _ (by omega)) (by omega), Nat.one_mul, nI_sub' (by omega), nI_add]
            rw [ek]; exact hO _ _ hU
          · rintro V p' ⟨y, b1, b2, b3, b4, b5, b6⟩
            rcases Nat.lt_trichotomy y i with c2 | c2 | c2
            · have := h2 y c2; omega
            · omega
            · have := b2 i c2; omega
      · have hU : ∀ V p', ¬ U β (8 * c) p V p' := by
          rintro V p' ⟨y, b1, b2, b3, b4, b5, b6⟩
          rcases Nat.lt_or_ge y i with c2 | c2
          · have := h2 y c2; omega
          · omega
        refine yes rfl (fun x hx => ?_)
        rw [hx, nI_1, e15, nI_le']
        refine yes (by omega) ?_
        rw [wl_X10_readU_7]
        exact nay n1 (bad _ _ hU)
  exact ⟨17, go 15 0 17 (by omega) (by omega) (by omega) (fun t ht => absurd ht (by omega))⟩
