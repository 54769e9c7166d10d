/-! foretelling: the pixels round a block, as the model's picture has them -/
def lnT (m : Nat → Int32) (a b k : Nat) : Int32 := m (32 * (4 * (b / a) - 1) + (4 * (b % a) + min k (if b % a + 1 < a then 7 else 3)))
def lnL (m : Nat → Int32) (a b k : Nat) : Int32 := m (32 * (4 * (b / a) + min k 3) + (4 * (b % a) - 1))
def lnM (m : Nat → Int32) (a b : Nat) : Int32 := m (32 * (4 * (b / a) - 1) + (4 * (b % a) - 1))
def lnP (m : Nat → Int32) (a b : Nat) (z : Int) : Int32 := if 0 < z then lnT m a b (z - 1).toNat else if z < 0 then lnL m a b (-z - 1).toNat else lnM m a b
def sp2 (x y : Int32) : Int32 := ((x + y) + 1) / 2
def sp3 (x y z : Int32) : Int32 := (((x + (2 * y)) + z) + 2) / 4
theorem sp3_sym (x y z : Int32) : sp3 x y z = sp3 z y x := by
  unfold sp3
  congr 2
  ac_rfl
theorem sp2_sym (x y : Int32) : sp2 x y = sp2 y x := by
  unfold sp2
  congr 2
  ac_rfl
/-- where a block lies -/
theorem blk {a d b : Nat} (h : 1 ≤ a ∧ a ≤ 8 ∧ 1 ≤ d ∧ d ≤ 8) (hb : b < a * d) : b / a < d ∧ b % a < a ∧ b < 64 := by
  have h1 : b / a < d := Nat.div_lt_of_lt_mul hb
  have h2 : b % a < a := Nat.mod_lt _ (by omega)
  have := ad_le h
  exact ⟨h1, h2, by omega⟩
theorem blk_up {a b : Nat} (h : 1 ≤ a) : a ≤ b ↔ 0 < b / a := ⟨fun e => Nat.div_pos e (by omega), fun e => Nat.le_of_lt_succ (Nat.lt_succ_of_le (by
  rcases Nat.lt_or_ge b a with q | q
  · rw [Nat.div_eq_of_lt q] at e; omega
  · exact q))⟩
theorem nd {a b : Nat} (ha : 1 ≤ a ∧ a ≤ 8) (hb : b < 64) : nI b / nI a = nI (b / a) := nI_div' ⟨by omega, by omega, by omega⟩
theorem nr {a b : Nat} (ha : 1 ≤ a ∧ a ≤ 8) (hb : b < 64) : jrem (nI b) (nI a) = nI (b % a) := nI_rem' ⟨by omega, by omega, by omega⟩
theorem nne {a : Nat} (ha : 1 ≤ a ∧ a ≤ 8) : ¬ nI a = 0 := nI_ne0' ⟨by omega, by omega⟩
theorem t_X10_hasAbove {a b : Nat} {K : Int32 → Prop} (ha : 1 ≤ a ∧ a ≤ 8) (hb : b < 64) (h : K (if 0 < b / a then 1 else 0)) : wp_X10_hasAbove (nI a) (nI b) K := by
  unfold wp_X10_hasAbove
  rw [nI_lt']
  have := blk_up (a := a) (b := b) ha.1
  refine ⟨fun c => ?_, fun c => ?_⟩
  · rw [if_neg (by omega)] at h; exact h
  · rw [if_pos (by omega)] at h; exact h
theorem t_X10_hasLeft {a b : Nat} {K : Int32 → Prop} (ha : 1 ≤ a ∧ a ≤ 8) (hb : b < 64) (h : K (if 0 < b % a then 1 else 0)) : wp_X10_hasLeft (nI a) (nI b) K := by
  unfold wp_X10_hasLeft
  rw [nr ha hb]
  have hm : b % a < a := Nat.mod_lt _ (by omega)
  have e0 : (0 : Int32) = nI 0 := rfl
  refine ⟨nne ha, fun c => ?_, fun c => ?_⟩
  · rw [e0, nI_le'] at c; rw [if_neg (by omega)] at h; exact h
  · rw [e0, nI_le'] at c; rw [if_pos (by omega)] at h; exact h
theorem t_X10_above {a d b k : Nat} {m : Nat → Int32} {K : Int32 → Prop} (hs : 1 ≤ a ∧ a ≤ 8 ∧ 1 ≤ d ∧ d ≤ 8) (hb : b < a * d) (hu : 0 < b / a) (hk : k < 100) (h : K (lnT m a b k)) : wp_X10_above (nI a) m (nI b) (nI k) K := by
  obtain ⟨h1, h2, h3⟩ := blk hs hb
  have ha : 1 ≤ a ∧ a ≤ 8 := ⟨hs.1, hs.2.1⟩
  unfold wp_X10_above jn1
  rw [nd ha h3, nr ha h3, nI_1]
  have key : ∀ t : Nat, t ≤ 7 → (t ≤ 3 ∨ b % a + 1 < a) → K (m (32 * (4 * (b / a) - 1) + (4 * (b % a) + t))) → ¬ nI a = 0 ∧ ¬ nI a = 0 ∧ vp_in (((32 * ((4 * nI (b / a)) - 1)) + (4 * nI (b % a))) + nI t) 1024 ∧ K (jat m (((32 * ((4 * nI (b / a)) - 1)) + (4 * nI (b % a))) + nI t)) := by
    intro t ht ht2 hK
    have e : ((32 * ((4 * nI (b / a)) - 1)) + (4 * nI (b % a))) + nI t = nI (32 * (4 * (b / a) - 1) + (4 * (b % a) + t)) := by
      rw [nI_4m1]
      show nI 32 * nI _ + nI 4 * nI _ + nI t = _
      rw [pk_mul, pk_mul, nI_add, nI_add]; congr 1; omega
    rw [e]
    refine ⟨nne ha, nne ha, nI_in', ?_⟩
    rw [jat_nI]; exact hK
  have e3 : (3 : Int32) = nI 3 := rfl
  have e7 : (7 : Int32) = nI 7 := rfl
  unfold lnT at h
  refine ⟨nne ha, fun c => ?_, fun c => ?_⟩
  · rw [nI_le'] at c
    rw [if_neg (by omega)] at h
    rw [e3]
    refine ⟨fun c2 => ?_, fun c2 => ?_⟩
    · rw [nI_le'] at c2
      exact key k (by omega) (by omega) (by rw [Nat.min_eq_left c2] at h; exact h)
    · rw [nI_le'] at c2
      exact key 3 (by omega) (by omega) (by rw [Nat.min_eq_right (by omega)] at h; exact h)
  · rw [nI_le'] at c
    rw [if_pos (by omega)] at h
    rw [e7]
    refine ⟨fun c2 => ?_, fun c2 => ?_⟩
    · rw [nI_le'] at c2
      exact key k (by omega) (by omega) (by rw [Nat.min_eq_left c2] at h; exact h)
    · rw [nI_le'] at c2
      exact key 7 (by omega) (by omega) (by rw [Nat.min_eq_right (by omega)] at h; exact h)
theorem t_X10_left {a d b k : Nat} {m : Nat → Int32} {K : Int32 → Prop} (hs : 1 ≤ a ∧ a ≤ 8 ∧ 1 ≤ d ∧ d ≤ 8) (hb : b < a * d) (hl : 0 < b % a) (hk : k < 100) (h : K (lnL m a b k)) : wp_X10_left (nI a) m (nI b) (nI k) K := by
  obtain ⟨h1, h2, h3⟩ := blk hs hb
  have ha : 1 ≤ a ∧ a ≤ 8 := ⟨hs.1, hs.2.1⟩
  unfold wp_X10_left jn1
  rw [nd ha h3, nr ha h3]
  have key : ∀ t : Nat, t ≤ 3 → K (m (32 * (4 * (b / a) + t) + (4 * (b % a) - 1))) → ¬ nI a = 0 ∧ ¬ nI a = 0 ∧ vp_in (((32 * ((4 * nI (b / a)) + nI t)) + (4 * nI (b % a))) - 1) 1024 ∧ K (jat m (((32 * ((4 * nI (b / a)) + nI t)) + (4 * nI (b % a))) - 1)) := by
    intro t ht hK
    have e : ((32 * ((4 * nI (b / a)) + nI t)) + (4 * nI (b % a))) - 1 = nI (32 * (4 * (b / a) + t) + (4 * (b % a) - 1)) := by
      show nI 32 * (nI 4 * nI _ + nI t) + nI 4 * nI _ - nI 1 = _
      rw [pk_mul, nI_add, pk_mul, pk_mul, nI_add, nI_sub' (by omega)]; congr 1; omega
    rw [e]
    refine ⟨nne ha, nne ha, nI_in', ?_⟩
    rw [jat_nI]; exact hK
  have e3 : (3 : Int32) = nI 3 := rfl
  unfold lnL at h
  rw [e3]
  refine ⟨fun c2 => ?_, fun c2 => ?_⟩
  · rw [nI_le'] at c2
    exact key k (by omega) (by rw [Nat.min_eq_left c2] at h; exact h)
  · rw [nI_le'] at c2
    exact key 3 (by omega) (by rw [Nat.min_eq_right (by omega)] at h; exact h)
theorem t_X10_round {a d b : Nat} {z : Int} {m : Nat → Int32} {K : Int32 → Prop} (hs : 1 ≤ a ∧ a ≤ 8 ∧ 1 ≤ d ∧ d ≤ 8) (hb : b < a * d) (hu : 0 ≤ z → 0 < b / a) (hl : z ≤ 0 → 0 < b % a) (hz : -100 < z ∧ z < 100) (h : K (lnP m a b z)) : wp_X10_round (nI a) m (nI b) (zI z) K := by
  obtain ⟨h1, h2, h3⟩ := blk hs hb
  have ha : 1 ≤ a ∧ a ≤ 8 := ⟨hs.1, hs.2.1⟩
  unfold wp_X10_round
  have e0 : (0 : Int32) = zI 0 := rfl
  have e1 : (1 : Int32) = zI 1 := rfl
  unfold lnP at h
  rw [e0, e1]
  refine ⟨fun c => ⟨fun c2 => ?_, fun c2 => ?_⟩, fun c => ?_⟩
  · rw [zI_le] at c c2
    rw [if_neg (by omega), if_neg (by omega)] at h
    rw [nd ha h3, nr ha h3]
    have hu := hu (by omega)
    have hl := hl (by omega)
    have e : ((32 * ((4 * nI (b / a)) - zI 1)) + (4 * nI (b % a))) - zI 1 = nI (32 * (4 * (b / a) - 1) + (4 * (b % a) - 1)) := by
      show ((32 * ((4 * nI (b / a)) - 1)) + (4 * nI (b % a))) - 1 = _
      rw [nI_4m1]
      show nI 32 * nI _ + nI 4 * nI _ - nI 1 = _
      rw [pk_mul, pk_mul, nI_add, nI_sub' (by omega)]; congr 1; omega
    rw [e]
    refine ⟨nne ha, nne ha, nI_in', ?_⟩
    rw [jat_nI]; exact h
  · rw [zI_le] at c c2
    rw [if_neg (by omega), if_pos (by omega)] at h
    have e : -zI z - zI 1 = nI (-z - 1).toNat := by
      rw [zI_neg, zI_sub, zI_nat, Int.toNat_of_nonneg (by omega)]
    rw [e]
    exact t_X10_left hs hb (hl (by omega)) (by omega) h
  · rw [zI_le] at c
    rw [if_pos (by omega)] at h
    have e : zI z - zI 1 = nI (z - 1).toNat := by
      rw [zI_sub, zI_nat, Int.toNat_of_nonneg (by omega)]
    rw [e]
    exact t_X10_above hs hb (hu (by omega)) (by omega) h
/-! the class's line -/
theorem t_X2_two {fl : Nat → Int32} {k m : Int} {K : Int32 → Prop} (h1 : -7 ≤ k ∧ k ≤ 9) (h2 : -7 ≤ m ∧ m ≤ 9) (h : K (sp2 (fl (7 + k).toNat) (fl (7 + m).toNat))) : wp_X2_two fl (zI k) (zI m) K := by
  unfold wp_X2_two
  have e7 : (7 : Int32) = zI 7 := rfl
  rw [e7, zI_add, zI_add]
  refine ⟨zI_in, zI_in, ?_⟩
  rw [zI_at, zI_at]
  exact h
theorem t_X2_three {fl : Nat → Int32} {k : Int} {K : Int32 → Prop} (h1 : -6 ≤ k ∧ k ≤ 8) (h : K (sp3 (fl (7 + (k - 1)).toNat) (fl (7 + k).toNat) (fl (7 + (k + 1)).toNat))) : wp_X2_three fl (zI k) K := by
  unfold wp_X2_three
  have e7 : (7 : Int32) = zI 7 := rfl
  have e1 : (1 : Int32) = zI 1 := rfl
  intro x hx
  rw [e7, zI_add] at hx
  subst hx
  rw [e1, zI_sub, zI_add]
  refine ⟨zI_in, zI_in, zI_in, ?_⟩
  rw [zI_at, zI_at, zI_at]
  have a1 : (7 + k - 1) = 7 + (k - 1) := by omega
  have a2 : (7 + k + 1) = 7 + (k + 1) := by omega
  rw [a1, a2]
  exact h
/-- modes 5 and 6, and 7 and 8, over any line -/
def slantP (P : Int → Int32) (x y : Int) : Int32 := if 0 ≤ 2 * x - y ∧ (2 * x - y) % 2 = 0 then sp2 (P (x - y / 2)) (P (x - y / 2 + 1)) else if 2 * x - y < -1 then sp3 (P (-y)) (P (1 - y)) (P (2 - y)) else sp3 (P (x - y / 2 - 1)) (P (x - y / 2)) (P (x - y / 2 + 1))
def leanP (P : Int → Int32) (x y : Int) : Int32 := if y % 2 = 0 then sp2 (P (x + y / 2 + 1)) (P (x + y / 2 + 2)) else sp3 (P (x + y / 2 + 1)) (P (x + y / 2 + 2)) (P (x + y / 2 + 3))
def toldP (P : Int → Int32) (mean : Int32) (mode : Nat) (x y : Int) : Int32 := match mode with
  | 0 => P (x + 1)
  | 1 => P (-(y + 1))
  | 2 => mean
  | 3 => sp3 (P (x + y + 1)) (P (x + y + 2)) (P (x + y + 3))
  | 4 => sp3 (P (x - y - 1)) (P (x - y)) (P (x - y + 1))
  | 5 => slantP P x y
  | 6 => slantP (fun z => P (-z)) y x
  | 7 => leanP P x y
  | _ => leanP (fun z => P (-z)) y x
theorem t_X2_steep {fl : Nat → Int32} {P : Int → Int32} {x y w : Int} {K : Int32 → Prop} (hx : 0 ≤ x ∧ x < 4) (hy : 0 ≤ y ∧ y < 4) (hw : w = 1 ∨ w = -1) (hP : ∀ z : Int, -7 ≤ z ∧ z ≤ 7 → fl (7 + w * z).toNat = P z) (h : K (slantP P x y)) : wp_X2_steep fl (zI x) (zI y) (zI w) K := by
  unfold wp_X2_steep
  intro x4 e4 x5 e5
  have e2 : (2 : Int32) = zI 2 := rfl
  have e1 : (1 : Int32) = zI 1 := rfl
  have em : (-1 : Int32) = zI (-1) := by decide
  have e0 : (0 : Int32) = zI 0 := rfl
  rw [e2, zI_mul, zI_sub] at e4
  rw [e2, zI_div, zI_sub, zI_td] at e5
  subst e4 e5
  rw [em, e2, e1, e0]
  unfold slantP at h
  have q1 : ∀ z : Int, -6 ≤ z ∧ z ≤ 6 → K (sp3 (P (z - 1)) (P z) (P (z + 1))) → wp_X2_three fl (zI w * zI z) (fun (r_5 : Int32) => K r_5) := by
    intro z hz hK
    rw [zI_mul]
    rcases hw with rfl | rfl
    · refine t_X2_three (by omega) ?_
      rw [← hP (z - 1) (by omega), ← hP z (by omega), ← hP (z + 1) (by omega)] at hK
      have a1 : (1 * z - 1 : Int) = 1 * (z - 1) := by omega
      have a2 : (1 * z + 1 : Int) = 1 * (z + 1) := by omega
      rw [a1, a2]; exact hK
    · refine t_X2_three (by omega) ?_
      rw [← hP (z - 1) (by omega), ← hP z (by omega), ← hP (z + 1) (by omega), sp3_sym] at hK
      have a1 : (-1 * z - 1 : Int) = -1 * (z + 1) := by omega
      have a2 : (-1 * z + 1 : Int) = -1 * (z - 1) := by omega
      rw [a1, a2]; exact hK
  have q2 : ∀ z : Int, -6 ≤ z ∧ z ≤ 6 → K (sp2 (P z) (P (z + 1))) → wp_X2_two fl (zI w * zI z) (zI w * (zI z + zI 1)) (fun (r_5 : Int32) => K r_5) := by
    intro z hz hK
    rw [zI_mul, zI_add, zI_mul]
    refine t_X2_two (by rcases hw with rfl | rfl <;> omega) (by rcases hw with rfl | rfl <;> omega) ?_
    rw [hP z (by omega), hP (z + 1) (by omega)]
    exact hK
  refine ⟨fun c => ?_, fun c => ?_⟩
  · rw [zI_le] at c
    rw [zI_rem]
    refine ⟨fun c2 => ?_, fun c2 => ?_⟩
    · rw [zI_eq (h := by have := Int.tmod_lt_of_pos (2 * x - y) (b := 2) (by decide); have := Int.lt_tmod_of_pos (2 * x - y) (b := 2) (by decide); omega)] at c2
      have hm : (2 * x - y) % 2 = 0 := by
        have := Int.emod_eq_zero_of_dvd (Int.dvd_of_tmod_eq_zero c2)
        exact this
      rw [if_pos ⟨by omega, hm⟩] at h
      exact q2 _ (by omega) h
    · rw [zI_eq (h := by have := Int.tmod_lt_of_pos (2 * x - y) (b := 2) (by decide); have := Int.lt_tmod_of_pos (2 * x - y) (b := 2) (by decide); omega)] at c2
      have hm : ¬ (2 * x - y) % 2 = 0 := fun e => c2 (Int.tmod_eq_zero_of_dvd (Int.dvd_of_emod_eq_zero e))
      rw [if_neg (by omega), if_neg (by omega)] at h
      exact q1 _ (by omega) h
  · rw [zI_le] at c
    rw [if_neg (by omega), if_pos (by omega)] at h
    rw [zI_sub]
    refine q1 (1 - y) (by omega) ?_
    have a1 : (1 - y - 1 : Int) = -y := by omega
    have a2 : (1 - y + 1 : Int) = 2 - y := by omega
    rw [a1, a2]; exact h
theorem t_X2_leaning {fl : Nat → Int32} {P : Int → Int32} {x y w : Int} {K : Int32 → Prop} (hx : 0 ≤ x ∧ x < 4) (hy : 0 ≤ y ∧ y < 4) (hw : w = 1 ∨ w = -1) (hP : ∀ z : Int, 1 ≤ z ∧ z ≤ 7 → fl (7 + w * z).toNat = P z) (h : K (leanP P x y)) : wp_X2_leaning fl (zI x) (zI y) (zI w) K := by
  unfold wp_X2_leaning
  intro x4 e4
  have e2 : (2 : Int32) = zI 2 := rfl
  have e1 : (1 : Int32) = zI 1 := rfl
  have e0 : (0 : Int32) = zI 0 := rfl
  rw [e2, zI_div, zI_add, zI_td] at e4
  subst e4
  rw [e2, e1, e0, zI_rem, zI_tm, zI_eq, zI_add, zI_add]
  unfold leanP at h
  refine ⟨fun c => ?_, fun c => ?_⟩
  · rw [if_pos c] at h
    rw [zI_mul, zI_mul]
    refine t_X2_two (by rcases hw with rfl | rfl <;> omega) (by rcases hw with rfl | rfl <;> omega) ?_
    rw [hP _ (by omega), hP _ (by omega)]
    exact h
  · rw [if_neg c] at h
    rw [zI_mul]
    refine t_X2_three (by rcases hw with rfl | rfl <;> omega) ?_
    rw [← hP _ (by omega), ← hP _ (by omega), ← hP (x + y / 2 + 3) (by omega)] at h
    rcases hw with rfl | rfl
    · have a1 : (1 * (x + y / 2 + 2) - 1 : Int) = 1 * (x + y / 2 + 1) := by omega
      have a2 : (1 * (x + y / 2 + 2) + 1 : Int) = 1 * (x + y / 2 + 3) := by omega
      rw [a1, a2]; exact h
    · have a1 : (-1 * (x + y / 2 + 2) - 1 : Int) = -1 * (x + y / 2 + 3) := by omega
      have a2 : (-1 * (x + y / 2 + 2) + 1 : Int) = -1 * (x + y / 2 + 1) := by omega
      rw [sp3_sym] at h
      rw [a1, a2]; exact h
/-- which modes a block may have -/
def mayB (up lf : Prop) (mode : Nat) : Prop := match mode with
  | 0 | 3 | 7 => up
  | 1 | 8 => lf
  | 2 => True
  | _ => up ∧ lf
/-- the line holds P where its pixels are there -/
def lnOk (fl : Nat → Int32) (P : Int → Int32) (up lf : Prop) : Prop := (up → ∀ k : Nat, k < 9 → fl (8 + k) = P (k + 1)) ∧ (lf → ∀ k : Nat, k < 7 → fl (6 - k) = P (-(k + 1))) ∧ (up → lf → fl 7 = P 0)
theorem lnOk.u {fl : Nat → Int32} {P : Int → Int32} {up lf : Prop} (h : lnOk fl P up lf) (hu : up) {z : Int} (hz : 1 ≤ z ∧ z ≤ 9) : fl (7 + z).toNat = P z := by
  have := h.1 hu (z - 1).toNat (by omega)
  have e1 : 8 + (z - 1).toNat = (7 + z).toNat := by omega
  have e2 : (((z - 1).toNat : Nat) : Int) + 1 = z := by omega
  rw [e1, e2] at this
  exact this
theorem lnOk.l {fl : Nat → Int32} {P : Int → Int32} {up lf : Prop} (h : lnOk fl P up lf) (hl : lf) {z : Int} (hz : -7 ≤ z ∧ z ≤ -1) : fl (7 + z).toNat = P z := by
  have := h.2.1 hl (-z - 1).toNat (by omega)
  have e1 : 6 - (-z - 1).toNat = (7 + z).toNat := by omega
  have e2 : -((((-z - 1).toNat : Nat) : Int) + 1) = z := by omega
  rw [e1, e2] at this
  exact this
theorem lnOk.b {fl : Nat → Int32} {P : Int → Int32} {up lf : Prop} (h : lnOk fl P up lf) (hu : up) (hl : lf) {z : Int} (hz : -7 ≤ z ∧ z ≤ 9) : fl (7 + z).toNat = P z := by
  by_cases h1 : 1 ≤ z
  · exact h.u hu ⟨h1, hz.2⟩
  · by_cases h2 : z ≤ -1
    · exact h.l hl ⟨hz.1, h2⟩
    · have : z = 0 := by omega
      subst this
      exact h.2.2 hu hl
theorem t_X2_guess {fl : Nat → Int32} {P : Int → Int32} {up lf : Prop} {fm : Int32} {mode x y : Nat} {K : Int32 → Prop} (hm : mode < 9) (hx : x < 4) (hy : y < 4) (hok : lnOk fl P up lf) (hmay : mayB up lf mode) (h : K (toldP P fm mode x y)) : wp_X2_guess fm fl (nI mode) (nI x) (nI y) K := by
  unfold wp_X2_guess
  have e2 : (2 : Int32) = zI 2 := rfl
  have e1 : (1 : Int32) = zI 1 := rfl
  have em : (-1 : Int32) = zI (-1) := by decide
  have hcs : mode = 0 ∨ mode = 1 ∨ mode = 2 ∨ mode = 3 ∨ mode = 4 ∨ mode = 5 ∨ mode = 6 ∨ mode = 7 ∨ mode = 8 := by omega
  rcases hcs with rfl | rfl | rfl | rfl | rfl | rfl | rfl | rfl | rfl
  · refine ⟨fun _ => ?_, fun c => absurd rfl c⟩
    have e : 8 + nI x = nI (8 + x) := nI_add 8 x
    rw [e]
    refine ⟨nI_in', ?_⟩
    rw [jat_nI, hok.1 hmay x (by omega)]
    exact h
  · refine ⟨fun c => absurd c (by decide), fun _ => ⟨fun _ => ?_, fun c => absurd rfl c⟩⟩
    have e : 6 - nI y = nI (6 - y) := nI_sub' (a := 6) (by omega)
    rw [e]
    refine ⟨nI_in', ?_⟩
    rw [jat_nI, hok.2.1 hmay y (by omega)]
    exact h
  · exact ⟨fun c => absurd c (by decide), fun _ => ⟨fun c => absurd c (by decide), fun _ => ⟨fun _ => h, fun c => absurd rfl c⟩⟩⟩
  · refine ⟨fun c => absurd c (by decide), fun _ => ⟨fun c => absurd c (by decide), fun _ => ⟨fun c => absurd c (by decide), fun _ => ⟨fun _ => ?_, fun c => absurd rfl c⟩⟩⟩⟩
    rw [zI_nat x, zI_nat y, e2, zI_add, zI_add]
    refine t_X2_three (by omega) ?_
    rw [hok.u hmay (by omega), hok.u hmay (by omega), hok.u hmay (by omega)]
    have a1 : ((x : Int) + y + 2 - 1) = x + y + 1 := by omega
    have a2 : ((x : Int) + y + 2 + 1) = x + y + 3 := by omega
    rw [a1, a2]; exact h
  · refine ⟨fun c => absurd c (by decide), fun _ => ⟨fun c => absurd c (by decide), fun _ => ⟨fun c => absurd c (by decide), fun _ => ⟨fun c => absurd c (by decide), fun _ => ⟨fun _ => ?_, fun c => absurd rfl c⟩⟩⟩⟩⟩
    rw [zI_nat x, zI_nat y, zI_sub]
    refine t_X2_three (by omega) ?_
    rw [hok.b hmay.1 hmay.2 (by omega), hok.b hmay.1 hmay.2 (by omega), hok.b hmay.1 hmay.2 (by omega)]
    exact h
  · refine ⟨fun c => absurd c (by decide), fun _ => ⟨fun c => absurd c (by decide), fun _ => ⟨fun c => absurd c (by decide), fun _ => ⟨fun c => absurd c (by decide), fun _ => ⟨fun c => absurd c (by decide), fun _ => ⟨fun _ => ?_, fun c => absurd rfl c⟩⟩⟩⟩⟩⟩
    rw [zI_nat x, zI_nat y, e1]
    refine t_X2_steep (P := P) (by omega) (by omega) (Or.inl rfl) (fun z hz => ?_) h
    rw [Int.one_mul]; exact hok.b hmay.1 hmay.2 (by omega)
  · refine ⟨fun c => absurd c (by decide), fun _ => ⟨fun c => absurd c (by decide), fun _ => ⟨fun c => absurd c (by decide), fun _ => ⟨fun c => absurd c (by decide), fun _ => ⟨fun c => absurd c (by decide), fun _ => ⟨fun c => absurd c (by decide), fun _ => ⟨fun _ => ?_, fun c => absurd rfl c⟩⟩⟩⟩⟩⟩⟩
    rw [zI_nat x, zI_nat y, em]
    refine t_X2_steep (P := fun z => P (-z)) (by omega) (by omega) (Or.inr rfl) (fun z hz => ?_) h
    have : -1 * z = -z := by omega
    rw [this]; exact hok.b hmay.1 hmay.2 (by omega)
  · refine ⟨fun c => absurd c (by decide), fun _ => ⟨fun c => absurd c (by decide), fun _ => ⟨fun c => absurd c (by decide), fun _ => ⟨fun c => absurd c (by decide), fun _ => ⟨fun c => absurd c (by decide), fun _ => ⟨fun c => absurd c (by decide), fun _ => ⟨fun c => absurd c (by decide), fun _ => ⟨fun _ => ?_, fun c => absurd rfl c⟩⟩⟩⟩⟩⟩⟩⟩
    rw [zI_nat x, zI_nat y, e1]
    refine t_X2_leaning (P := P) (by omega) (by omega) (Or.inl rfl) (fun z hz => ?_) h
    rw [Int.one_mul]; exact hok.u hmay (by omega)
  · refine ⟨fun c => absurd c (by decide), fun _ => ⟨fun c => absurd c (by decide), fun _ => ⟨fun c => absurd c (by decide), fun _ => ⟨fun c => absurd c (by decide), fun _ => ⟨fun c => absurd c (by decide), fun _ => ⟨fun c => absurd c (by decide), fun _ => ⟨fun c => absurd c (by decide), fun _ => ⟨fun c => absurd c (by decide), fun _ => ?_⟩⟩⟩⟩⟩⟩⟩⟩
    rw [zI_nat x, zI_nat y, em]
    refine t_X2_leaning (P := fun z => P (-z)) (by omega) (by omega) (Or.inr rfl) (fun z hz => ?_) h
    have : -1 * z = -z := by omega
    rw [this]; exact hok.l hmay (by omega)
