/-! what the model foretells -/
theorem lnP_t (m : Nat → Int32) (a b k : Nat) : lnP m a b ((k : Int) + 1) = lnT m a b k := by
  unfold lnP
  rw [if_pos (by omega)]
  congr 1; omega
theorem lnP_l (m : Nat → Int32) (a b k : Nat) : lnP m a b (-((k : Int) + 1)) = lnL m a b k := by
  unfold lnP
  rw [if_neg (by omega), if_pos (by omega)]
  congr 1; omega
theorem lnP_0 (m : Nat → Int32) (a b : Nat) : lnP m a b 0 = lnM m a b := rfl
def sumT (m : Nat → Int32) (a b : Nat) : Int32 := ((lnT m a b 0 + lnT m a b 1) + lnT m a b 2) + lnT m a b 3
def sumL (m : Nat → Int32) (a b : Nat) : Int32 := ((lnL m a b 0 + lnL m a b 1) + lnL m a b 2) + lnL m a b 3
def meanM (m : Nat → Int32) (a b : Nat) : Int32 := if 0 < b / a then (if 0 < b % a then ((sumT m a b + sumL m a b) + 4) / 8 else (sumT m a b + 2) / 4) else (if 0 < b % a then (sumL m a b + 2) / 4 else 128)
def accM (t l : Nat → Int32) : Nat → Int32
  | 0 => 0
  | i + 1 => accM t l i + (t i + l i)
theorem t_X10_mean_4 {a d b : Nat} {m : Nat → Int32} {K : Int32 → Prop} {X : Int32 → Int32 → Prop} (hs : 1 ≤ a ∧ a ≤ 8 ∧ 1 ≤ d ∧ d ≤ 8) (hb : b < a * d)
    (hX : ∀ v, X (accM (fun k => if 0 < b / a then lnT m a b k else 0) (fun k => if 0 < b % a then lnL m a b k else 0) 4) v) :
    ∀ (e i n : Nat), i + e = 4 → e < n → wl_X10_mean_4 (nI b) (nI a) m K X n (accM (fun k => if 0 < b / a then lnT m a b k else 0) (fun k => if 0 < b % a then lnL m a b k else 0) i) (nI i) := by
  obtain ⟨h1, h2, h3⟩ := blk hs hb
  have ha : 1 ≤ a ∧ a ≤ 8 := ⟨hs.1, hs.2.1⟩
  intro e
  induction e with
  | zero =>
    intro i n hi hn
    obtain ⟨n, rfl⟩ : ∃ k, n = k + 1 := ⟨n - 1, by omega⟩
    rw [wl_X10_mean_4]
    have hi : i = 4 := by omega
    subst hi
    exact ⟨fun _ => hX _, fun c => absurd (by decide) c⟩
  | succ e ih =>
    intro i n hi hn
    obtain ⟨n, rfl⟩ : ∃ k, n = k + 1 := ⟨n - 1, by omega⟩
    rw [wl_X10_mean_4]
    refine ⟨fun c => absurd c (nI_ge (a := i) (b := 4) (by omega) (by decide)), fun _ => t_X10_hasAbove ha h3 ?_⟩
    unfold jn1
    have step : ∀ t l : Int32, t = (if 0 < b / a then lnT m a b i else 0) → l = (if 0 < b % a then lnL m a b i else 0) → ∀ x2_6 : Int32, x2_6 = accM (fun k => if 0 < b / a then lnT m a b k else 0) (fun k => if 0 < b % a then lnL m a b k else 0) i + (t + l) → ∀ x3_7 : Int32, x3_7 = nI i + 1 → wl_X10_mean_4 (nI b) (nI a) m K X n x2_6 x3_7 := by
      intro t l ht hl x2 e2 x3 e3
      rw [e3, nI_1, e2, ht, hl]
      exact ih (i + 1) n (by omega) (by omega)
    have left : ∀ t : Int32, t = (if 0 < b / a then lnT m a b i else 0) → wp_X10_hasLeft (nI a) (nI b) (fun (r_4 : Int32) => ((r_4 = 0 → ∀ x2_6 : Int32, x2_6 = accM (fun k => if 0 < b / a then lnT m a b k else 0) (fun k => if 0 < b % a then lnL m a b k else 0) i + (t + 0) → ∀ x3_7 : Int32, x3_7 = nI i + 1 → wl_X10_mean_4 (nI b) (nI a) m K X n x2_6 x3_7) ∧ (¬ r_4 = 0 → wp_X10_left (nI a) m (nI b) (nI i) (fun (r_9 : Int32) => ∀ x2_6 : Int32, x2_6 = accM (fun k => if 0 < b / a then lnT m a b k else 0) (fun k => if 0 < b % a then lnL m a b k else 0) i + (t + r_9) → ∀ x3_7 : Int32, x3_7 = nI i + 1 → wl_X10_mean_4 (nI b) (nI a) m K X n x2_6 x3_7)))) := by
      intro t ht
      refine t_X10_hasLeft ha h3 ?_
      by_cases hl : 0 < b % a
      · rw [if_pos hl]
        exact ⟨fun c => absurd c (by decide), fun _ => t_X10_left hs hb hl (by omega) (step t _ ht (by rw [if_pos hl]))⟩
      · rw [if_neg hl]
        exact ⟨fun _ => step t 0 ht (by rw [if_neg hl]), fun c => absurd rfl c⟩
    by_cases hu : 0 < b / a
    · rw [if_pos hu]
      exact ⟨fun c => absurd c (by decide), fun _ => t_X10_above hs hb hu (by omega) (left _ (by rw [if_pos hu]))⟩
    · rw [if_neg hu]
      exact ⟨fun _ => left 0 (by rw [if_neg hu]), fun c => absurd rfl c⟩
theorem t_X10_mean {a d b : Nat} {m : Nat → Int32} {K : Int32 → Prop} (hs : 1 ≤ a ∧ a ≤ 8 ∧ 1 ≤ d ∧ d ≤ 8) (hb : b < a * d) (h : K (meanM m a b)) : wp_X10_mean (nI a) m (nI b) K := by
  obtain ⟨h1, h2, h3⟩ := blk hs hb
  have ha : 1 ≤ a ∧ a ≤ 8 := ⟨hs.1, hs.2.1⟩
  unfold wp_X10_mean
  refine ⟨5, t_X10_mean_4 hs hb (fun _ => ?_) 4 0 5 rfl (by decide)⟩
  refine t_X10_hasAbove ha h3 ?_
  unfold jn0
  unfold meanM at h
  by_cases hu : 0 < b / a
  · rw [if_pos hu] at h ⊢
    refine ⟨fun c => absurd c (by decide), fun _ => t_X10_hasLeft ha h3 ?_⟩
    by_cases hl : 0 < b % a
    · rw [if_pos hl] at h ⊢
      refine ⟨fun c => absurd c (by decide), fun _ => ?_⟩
      have e : accM (fun k => if 0 < b / a then lnT m a b k else 0) (fun k => if 0 < b % a then lnL m a b k else 0) 4 = sumT m a b + sumL m a b := by
        simp only [accM, if_pos hu, if_pos hl, sumT, sumL, Int32.zero_add]
        ac_rfl
      rw [e]; exact h
    · rw [if_neg hl] at h ⊢
      refine ⟨fun _ => t_X10_hasAbove ha h3 ?_, fun c => absurd rfl c⟩
      rw [if_pos hu]
      refine ⟨fun c => absurd c (by decide), fun _ => ?_⟩
      have e : accM (fun k => if 0 < b / a then lnT m a b k else 0) (fun k => if 0 < b % a then lnL m a b k else 0) 4 = sumT m a b := by
        simp only [accM, if_pos hu, if_neg hl, sumT, Int32.zero_add, Int32.add_zero]
      rw [e]; exact h
  · rw [if_neg hu] at h ⊢
    refine ⟨fun _ => t_X10_hasAbove ha h3 ?_, fun c => absurd rfl c⟩
    rw [if_neg hu]
    refine ⟨fun _ => t_X10_hasLeft ha h3 ?_, fun c => absurd rfl c⟩
    by_cases hl : 0 < b % a
    · rw [if_pos hl] at h ⊢
      refine ⟨fun c => absurd c (by decide), fun _ => ?_⟩
      have e : accM (fun k => if 0 < b / a then lnT m a b k else 0) (fun k => if 0 < b % a then lnL m a b k else 0) 4 = sumL m a b := by
        simp only [accM, if_neg hu, if_pos hl, sumL, Int32.zero_add]
      rw [e]; exact h
    · rw [if_neg hl] at h ⊢
      exact ⟨fun _ => h, fun c => absurd rfl c⟩
theorem t_X10_slanted {a d b : Nat} {m : Nat → Int32} {x y w : Int} {K : Int32 → Prop} (hs : 1 ≤ a ∧ a ≤ 8 ∧ 1 ≤ d ∧ d ≤ 8) (hb : b < a * d) (hu : 0 < b / a) (hl : 0 < b % a) (hx : 0 ≤ x ∧ x < 4) (hy : 0 ≤ y ∧ y < 4) (hw : w = 1 ∨ w = -1)
    (h : K (slantP (fun z => lnP m a b (w * z)) x y)) : wp_X10_slanted (nI a) m (nI b) (zI x) (zI y) (zI w) K := by
  unfold wp_X10_slanted
  intro x4 e4 x5 e5
  have e2 : (2 : Int32) = zI 2 := rfl
  have e1 : (1 : Int32) = zI 1 := rfl
  have em : (-1 : Int32) = zI (-1) := by decide
  have e0 : (0 : Int32) = zI 0 := rfl
  rw [e2, zI_mul, zI_sub] at e4
  rw [e2, zI_div, zI_sub, zI_td] at e5
  subst e4 e5
  rw [em, e2, e1, e0]
  unfold slantP at h
  have q3 : ∀ z1 z2 z3 : Int, (-50 < z1 ∧ z1 < 50) → (-50 < z2 ∧ z2 < 50) → (-50 < z3 ∧ z3 < 50) → K (sp3 (lnP m a b z1) (lnP m a b z2) (lnP m a b z3)) → wp_X10_round (nI a) m (nI b) (zI z1) (fun (r_10 : Int32) => wp_X10_round (nI a) m (nI b) (zI z2) (fun (r_11 : Int32) => wp_X10_round (nI a) m (nI b) (zI z3) (fun (r_12 : Int32) => wp_X10_three r_10 r_11 r_12 (fun (r_13 : Int32) => K r_13)))) :=
    fun z1 z2 z3 k1 k2 k3 hK => t_X10_round hs hb (fun _ => hu) (fun _ => hl) (by omega) (t_X10_round hs hb (fun _ => hu) (fun _ => hl) (by omega) (t_X10_round hs hb (fun _ => hu) (fun _ => hl) (by omega) hK))
  have q2 : ∀ z1 z2 : Int, (-50 < z1 ∧ z1 < 50) → (-50 < z2 ∧ z2 < 50) → K (sp2 (lnP m a b z1) (lnP m a b z2)) → wp_X10_round (nI a) m (nI b) (zI z1) (fun (r_10 : Int32) => wp_X10_round (nI a) m (nI b) (zI z2) (fun (r_11 : Int32) => wp_X10_two r_10 r_11 (fun (r_13 : Int32) => K r_13))) :=
    fun z1 z2 k1 k2 hK => t_X10_round hs hb (fun _ => hu) (fun _ => hl) (by omega) (t_X10_round hs hb (fun _ => hu) (fun _ => hl) (by omega) hK)
  unfold jn0
  rw [zI_rem]
  have hwr : -1 ≤ w ∧ w ≤ 1 := by rcases hw with rfl | rfl <;> omega
  have hmul : ∀ z : Int, -10 ≤ z ∧ z ≤ 10 → -50 < w * z ∧ w * z < 50 := by rcases hw with rfl | rfl <;> intro z hz <;> omega
  have J : ¬ (0 ≤ 2 * x - y ∧ (2 * x - y) % 2 = 0) → ((zI (2 * x - y) ≤ zI 0 → ((zI (2 * x - y) = zI (-1) → wp_X10_round (nI a) m (nI b) (zI (-1)) (fun (r_10 : Int32) => wp_X10_round (nI a) m (nI b) (zI 0) (fun (r_11 : Int32) => wp_X10_round (nI a) m (nI b) (zI 1) (fun (r_12 : Int32) => wp_X10_three r_10 r_11 r_12 (fun (r_13 : Int32) => K r_13))))) ∧ (¬ zI (2 * x - y) = zI (-1) → wp_X10_round (nI a) m (nI b) (zI w * (-zI y)) (fun (r_6 : Int32) => wp_X10_round (nI a) m (nI b) (zI w * (zI 1 - zI y)) (fun (r_7 : Int32) => wp_X10_round (nI a) m (nI b) (zI w * (zI 2 - zI y)) (fun (r_8 : Int32) => wp_X10_three r_6 r_7 r_8 (fun (r_9 : Int32) => K r_9))))))) ∧ (¬ zI (2 * x - y) ≤ zI 0 → wp_X10_round (nI a) m (nI b) (zI w * (zI (x - y / 2) - zI 1)) (fun (r_14 : Int32) => wp_X10_round (nI a) m (nI b) (zI w * zI (x - y / 2)) (fun (r_15 : Int32) => wp_X10_round (nI a) m (nI b) (zI w * (zI (x - y / 2) + zI 1)) (fun (r_16 : Int32) => wp_X10_three r_14 r_15 r_16 (fun (r_17 : Int32) => K r_17)))))) := by
    intro hn
    rw [if_neg hn] at h
    rw [zI_le, zI_eq]
    refine ⟨fun c => ⟨fun c2 => ?_, fun c2 => ?_⟩, fun c => ?_⟩
    · rw [if_neg (by omega)] at h
      have hz : x - y / 2 = 0 := by omega
      rw [hz] at h
      refine q3 (-1) 0 1 (by omega) (by omega) (by omega) ?_
      rcases hw with rfl | rfl
      · exact h
      · rw [sp3_sym]; exact h
    · rw [if_pos (by omega)] at h
      rw [zI_neg, zI_sub, zI_sub, zI_mul, zI_mul, zI_mul]
      exact q3 _ _ _ (hmul _ (by omega)) (hmul _ (by omega)) (hmul _ (by omega)) h
    · rw [if_neg (by omega)] at h
      rw [zI_sub, zI_add, zI_mul, zI_mul, zI_mul]
      exact q3 _ _ _ (hmul _ (by omega)) (hmul _ (by omega)) (hmul _ (by omega)) h
  refine ⟨fun c => J ?_, fun c => ⟨fun c2 => ?_, fun c2 => J ?_⟩⟩
  · rw [zI_lt] at c; omega
  · rw [zI_lt] at c
    rw [zI_eq (h := by have := Int.tmod_lt_of_pos (2 * x - y) (b := 2) (by decide); have := Int.lt_tmod_of_pos (2 * x - y) (b := 2) (by decide); omega)] at c2
    have hm : (2 * x - y) % 2 = 0 := Int.emod_eq_zero_of_dvd (Int.dvd_of_tmod_eq_zero c2)
    rw [if_pos ⟨by omega, hm⟩] at h
    rw [zI_add, zI_mul, zI_mul]
    exact q2 _ _ (hmul _ (by omega)) (hmul _ (by omega)) h
  · rw [zI_eq (h := by have := Int.tmod_lt_of_pos (2 * x - y) (b := 2) (by decide); have := Int.lt_tmod_of_pos (2 * x - y) (b := 2) (by decide); omega)] at c2
    intro e
    exact c2 (Int.tmod_eq_zero_of_dvd (Int.dvd_of_emod_eq_zero e.2))
theorem t_X10_told {a d b : Nat} {m : Nat → Int32} {mode x y : Nat} {K : Int32 → Prop} (hs : 1 ≤ a ∧ a ≤ 8 ∧ 1 ≤ d ∧ d ≤ 8) (hb : b < a * d) (hm : mode < 9) (hx : x < 4) (hy : y < 4) (hmay : mayB (0 < b / a) (0 < b % a) mode)
    (h : K (toldP (lnP m a b) (meanM m a b) mode x y)) : wp_X10_told (nI a) m (nI b) (nI mode) (nI x) (nI y) K := by
  unfold wp_X10_told
  intro x5 e5 x6 e6
  have e2 : (2 : Int32) = nI 2 := rfl
  have e1 : (1 : Int32) = nI 1 := rfl
  have em : (-1 : Int32) = zI (-1) := by decide
  have ez1 : (1 : Int32) = zI 1 := rfl
  rw [e2, nI_div', nI_add] at e5 e6
  subst e5 e6
  have ab3 : ∀ k1 k2 k3 : Nat, k1 < 50 → k2 < 50 → k3 < 50 → 0 < b / a → K (sp3 (lnT m a b k1) (lnT m a b k2) (lnT m a b k3)) → wp_X10_above (nI a) m (nI b) (nI k1) (fun (r_10 : Int32) => wp_X10_above (nI a) m (nI b) (nI k2) (fun (r_11 : Int32) => wp_X10_above (nI a) m (nI b) (nI k3) (fun (r_12 : Int32) => wp_X10_three r_10 r_11 r_12 (fun (r_13 : Int32) => K r_13)))) :=
    fun k1 k2 k3 h1 h2 h3 hu hK => t_X10_above hs hb hu (by omega) (t_X10_above hs hb hu (by omega) (t_X10_above hs hb hu (by omega) hK))
  have ab2 : ∀ k1 k2 : Nat, k1 < 50 → k2 < 50 → 0 < b / a → K (sp2 (lnT m a b k1) (lnT m a b k2)) → wp_X10_above (nI a) m (nI b) (nI k1) (fun (r_10 : Int32) => wp_X10_above (nI a) m (nI b) (nI k2) (fun (r_11 : Int32) => wp_X10_two r_10 r_11 (fun (r_13 : Int32) => K r_13))) :=
    fun k1 k2 h1 h2 hu hK => t_X10_above hs hb hu (by omega) (t_X10_above hs hb hu (by omega) hK)
  have lf3 : ∀ k1 k2 k3 : Nat, k1 < 50 → k2 < 50 → k3 < 50 → 0 < b % a → K (sp3 (lnL m a b k1) (lnL m a b k2) (lnL m a b k3)) → wp_X10_left (nI a) m (nI b) (nI k1) (fun (r_10 : Int32) => wp_X10_left (nI a) m (nI b) (nI k2) (fun (r_11 : Int32) => wp_X10_left (nI a) m (nI b) (nI k3) (fun (r_12 : Int32) => wp_X10_three r_10 r_11 r_12 (fun (r_13 : Int32) => K r_13)))) :=
    fun k1 k2 k3 h1 h2 h3 hu hK => t_X10_left hs hb hu (by omega) (t_X10_left hs hb hu (by omega) (t_X10_left hs hb hu (by omega) hK))
  have lf2 : ∀ k1 k2 : Nat, k1 < 50 → k2 < 50 → 0 < b % a → K (sp2 (lnL m a b k1) (lnL m a b k2)) → wp_X10_left (nI a) m (nI b) (nI k1) (fun (r_10 : Int32) => wp_X10_left (nI a) m (nI b) (nI k2) (fun (r_11 : Int32) => wp_X10_two r_10 r_11 (fun (r_13 : Int32) => K r_13))) :=
    fun k1 k2 h1 h2 hu hK => t_X10_left hs hb hu (by omega) (t_X10_left hs hb hu (by omega) hK)
  have hcs : mode = 0 ∨ mode = 1 ∨ mode = 2 ∨ mode = 3 ∨ mode = 4 ∨ mode = 5 ∨ mode = 6 ∨ mode = 7 ∨ mode = 8 := by omega
  rcases hcs with rfl | rfl | rfl | rfl | rfl | rfl | rfl | rfl | rfl
  · refine ⟨fun _ => t_X10_above hs hb hmay (by omega) ?_, fun c => absurd rfl c⟩
    rw [← lnP_t]; exact h
  · refine ⟨fun c => absurd c (by decide), fun _ => ⟨fun _ => t_X10_left hs hb hmay (by omega) ?_, fun c => absurd rfl c⟩⟩
    rw [← lnP_l]; exact h
  · exact ⟨fun c => absurd c (by decide), fun _ => ⟨fun c => absurd c (by decide), fun _ => ⟨fun _ => t_X10_mean hs hb h, fun c => absurd rfl c⟩⟩⟩
  · refine ⟨fun c => absurd c (by decide), fun _ => ⟨fun c => absurd c (by decide), fun _ => ⟨fun c => absurd c (by decide), fun _ => ⟨fun _ => ?_, fun c => absurd rfl c⟩⟩⟩⟩
    rw [e1, e2, nI_add, nI_add, nI_add]
    refine ab3 _ _ _ (by omega) (by omega) (by omega) hmay ?_
    rw [← lnP_t, ← lnP_t, ← lnP_t]
    have a1 : (((x + y : Nat) : Int) + 1) = x + y + 1 := by omega
    have a2 : (((x + y + 1 : Nat) : Int) + 1) = x + y + 2 := by omega
    have a3 : (((x + y + 2 : Nat) : Int) + 1) = x + y + 3 := by omega
    rw [a1, a2, a3]; exact h
  · refine ⟨fun c => absurd c (by decide), fun _ => ⟨fun c => absurd c (by decide), fun _ => ⟨fun c => absurd c (by decide), fun _ => ⟨fun c => absurd c (by decide), fun _ => ⟨fun _ => ?_, fun c => absurd rfl c⟩⟩⟩⟩⟩
    rw [zI_nat x, zI_nat y, ez1, zI_sub, zI_sub, zI_add]
    exact t_X10_round hs hb (fun _ => hmay.1) (fun _ => hmay.2) (by omega) (t_X10_round hs hb (fun _ => hmay.1) (fun _ => hmay.2) (by omega) (t_X10_round hs hb (fun _ => hmay.1) (fun _ => hmay.2) (by omega) h))
  · refine ⟨fun c => absurd c (by decide), fun _ => ⟨fun c => absurd c (by decide), fun _ => ⟨fun c => absurd c (by decide), fun _ => ⟨fun c => absurd c (by decide), fun _ => ⟨fun c => absurd c (by decide), fun _ => ⟨fun _ => ?_, fun c => absurd rfl c⟩⟩⟩⟩⟩⟩
    rw [zI_nat x, zI_nat y, ez1]
    refine t_X10_slanted hs hb hmay.1 hmay.2 (by omega) (by omega) (Or.inl rfl) ?_
    have : (fun z => lnP m a b (1 * z)) = lnP m a b := funext (fun z => by rw [Int.one_mul])
    rw [this]; exact h
  · refine ⟨fun c => absurd c (by decide), fun _ => ⟨fun c => absurd c (by decide), fun _ => ⟨fun c => absurd c (by decide), fun _ => ⟨fun c => absurd c (by decide), fun _ => ⟨fun c => absurd c (by decide), fun _ => ⟨fun c => absurd c (by decide), fun _ => ⟨fun _ => ?_, fun c => absurd rfl c⟩⟩⟩⟩⟩⟩⟩
    rw [zI_nat x, zI_nat y, em]
    refine t_X10_slanted hs hb hmay.1 hmay.2 (by omega) (by omega) (Or.inr rfl) ?_
    have : (fun z => lnP m a b (-1 * z)) = fun z => lnP m a b (-z) := funext (fun z => by congr 1; omega)
    rw [this]; exact h
  · refine ⟨fun c => absurd c (by decide), fun _ => ⟨fun c => absurd c (by decide), fun _ => ⟨fun c => absurd c (by decide), fun _ => ⟨fun c => absurd c (by decide), fun _ => ⟨fun c => absurd c (by decide), fun _ => ⟨fun c => absurd c (by decide), fun _ => ⟨fun c => absurd c (by decide), fun _ => ⟨fun _ => ?_, fun c => absurd rfl c⟩⟩⟩⟩⟩⟩⟩⟩
    have e0 : (0 : Int32) = nI 0 := rfl
    rw [e2, e1, e0, nI_rem', nI_eq', nI_add, nI_add]
    change K (leanP (lnP m a b) x y) at h
    unfold leanP at h
    have b1 : ((x : Int) + (y : Int) / 2 + 1) = ((x + y / 2 : Nat) : Int) + 1 := by omega
    have b2 : ((x : Int) + (y : Int) / 2 + 2) = ((x + y / 2 + 1 : Nat) : Int) + 1 := by omega
    have b3 : ((x : Int) + (y : Int) / 2 + 3) = ((x + y / 2 + 2 : Nat) : Int) + 1 := by omega
    rw [b1, b2, b3, lnP_t, lnP_t, lnP_t] at h
    refine ⟨fun c => ?_, fun c => ?_⟩
    · rw [if_pos (by omega)] at h
      exact ab2 _ _ (by omega) (by omega) hmay h
    · rw [if_neg (by omega)] at h
      exact ab3 _ _ _ (by omega) (by omega) (by omega) hmay h
  · refine ⟨fun c => absurd c (by decide), fun _ => ⟨fun c => absurd c (by decide), fun _ => ⟨fun c => absurd c (by decide), fun _ => ⟨fun c => absurd c (by decide), fun _ => ⟨fun c => absurd c (by decide), fun _ => ⟨fun c => absurd c (by decide), fun _ => ⟨fun c => absurd c (by decide), fun _ => ⟨fun c => absurd c (by decide), fun _ => ?_⟩⟩⟩⟩⟩⟩⟩⟩
    have e0 : (0 : Int32) = nI 0 := rfl
    rw [e2, e1, e0, nI_rem', nI_eq', nI_add, nI_add]
    change K (leanP (fun z => lnP m a b (-z)) y x) at h
    unfold leanP at h
    have b1 : -((y : Int) + (x : Int) / 2 + 1) = -(((y + x / 2 : Nat) : Int) + 1) := by omega
    have b2 : -((y : Int) + (x : Int) / 2 + 2) = -(((y + x / 2 + 1 : Nat) : Int) + 1) := by omega
    have b3 : -((y : Int) + (x : Int) / 2 + 3) = -(((y + x / 2 + 2 : Nat) : Int) + 1) := by omega
    dsimp only at h
    rw [b1, b2, b3, lnP_l, lnP_l, lnP_l] at h
    refine ⟨fun c => ?_, fun c => ?_⟩
    · rw [if_pos (by omega)] at h
      exact lf2 _ _ (by omega) (by omega) hmay h
    · rw [if_neg (by omega)] at h
      exact lf3 _ _ _ (by omega) (by omega) (by omega) hmay h
