/-! numbers: an Int32 as the image of an integer -/
def zI (z : Int) : Int32 := Int32.ofInt z
theorem zI_add (a b : Int) : zI a + zI b = zI (a + b) := (Int32.ofInt_add a b).symm
theorem zI_sub (a b : Int) : zI a - zI b = zI (a - b) := (Int32.ofInt_sub a b).symm
theorem zI_mul (a b : Int) : zI a * zI b = zI (a * b) := (Int32.ofInt_mul a b).symm
theorem zI_neg (a : Int) : -zI a = zI (-a) := (Int32.ofInt_neg a).symm
theorem zI_nat (n : Nat) : nI n = zI (n : Int) := (Int32.ofInt_eq_ofNat).symm
theorem zI_of (x : Int32) : x = zI x.toInt := (Int32.ofInt_toInt x).symm
theorem zI_toInt {a : Int} (h : -2147483648 ≤ a ∧ a ≤ 2147483647 := by omega) : (zI a).toInt = a := Int32.toInt_ofInt_of_le (by omega) (by omega)
theorem zI_le {a b : Int} (h : -2147483648 ≤ a ∧ a ≤ 2147483647 ∧ -2147483648 ≤ b ∧ b ≤ 2147483647 := by omega) : (zI a ≤ zI b) ↔ a ≤ b := by
  rw [Int32.le_iff_toInt_le, zI_toInt, zI_toInt]
theorem zI_lt {a b : Int} (h : -2147483648 ≤ a ∧ a ≤ 2147483647 ∧ -2147483648 ≤ b ∧ b ≤ 2147483647 := by omega) : (zI a < zI b) ↔ a < b := by
  rw [Int32.lt_iff_toInt_lt, zI_toInt, zI_toInt]
theorem zI_eq {a b : Int} (h : -2147483648 ≤ a ∧ a ≤ 2147483647 ∧ -2147483648 ≤ b ∧ b ≤ 2147483647 := by omega) : (zI a = zI b) ↔ a = b := by
  rw [← Int32.toInt_inj, zI_toInt, zI_toInt]
theorem zI_div {a b : Int} (h : -2147483648 < a ∧ a ≤ 2147483647 ∧ -2147483648 ≤ b ∧ b ≤ 2147483647 := by omega) : zI a / zI b = zI (a.tdiv b) := by
  rw [← Int32.toInt_inj, Int32.toInt_div_of_ne_left, zI_toInt, zI_toInt]
  · have h1 : (a.tdiv b).natAbs ≤ a.natAbs := Int.natAbs_tdiv_le_natAbs a b
    rw [zI_toInt]
  · intro e
    have e1 : (zI a).toInt = Int32.minValue.toInt := by rw [e]
    rw [zI_toInt] at e1
    have e2 : Int32.minValue.toInt = -2147483648 := rfl
    omega
theorem zI_rem {a b : Int} (h : -2147483648 < a ∧ a ≤ 2147483647 ∧ -2147483648 ≤ b ∧ b ≤ 2147483647 := by omega) : jrem (zI a) (zI b) = zI (a.tmod b) := by
  show zI a - zI a / zI b * zI b = _
  rw [zI_div, zI_mul, zI_sub]
  congr 1
  have := Int.tmod_add_mul_tdiv a b
  rw [Int.mul_comm] at this
  omega
theorem zI_clamp {a : Int} (h : -2147483648 ≤ a ∧ a ≤ 2147483647 := by omega) : (zI a).toNatClampNeg = a.toNat := Int32.toNatClampNeg_ofInt_of_le (by omega) (by omega)
theorem zI_at (f : Nat → Int32) {a : Int} (h : -2147483648 ≤ a ∧ a ≤ 2147483647 := by omega) : jat f (zI a) = f a.toNat := by
  show f _ = _
  rw [zI_clamp]
theorem zI_up (f : Nat → Int32) (x : Int32) {a : Int} (h : -2147483648 ≤ a ∧ a ≤ 2147483647 := by omega) : jup f (zI a) x = upd f a.toNat x := by
  show upd f _ x = _
  rw [zI_clamp]
theorem zI_in {a : Int} {N : Nat} (h : 0 ≤ a ∧ a < N ∧ N ≤ 2147483647 := by omega) : vp_in (zI a) N := by
  rw [vp_in_iff, zI_toInt]
  omega
theorem zI_td {a b : Int} (h : 0 ≤ a := by omega) : a.tdiv b = a / b := Int.tdiv_eq_ediv_of_nonneg h
theorem zI_tm {a b : Int} (h : 0 ≤ a := by omega) : a.tmod b = a % b := Int.tmod_eq_emod_of_nonneg h
theorem jat_nI (f : Nat → Int32) {n : Nat} (h : n < 2147483648 := by omega) : jat f (nI n) = f n := by
  show f _ = _
  rw [nI_clamp (by omega)]
theorem jup_nI (f : Nat → Int32) (x : Int32) {n : Nat} (h : n < 2147483648 := by omega) : jup f (nI n) x = upd f n x := by
  show upd f _ x = _
  rw [nI_clamp (by omega)]
theorem nI_in' {n N : Nat} (h : n < N ∧ N ≤ 2147483647 := by omega) : vp_in (nI n) N := vp_in_nI h.1 (by omega)
theorem nI_le' {a b : Nat} (h : a < 2147483648 ∧ b < 2147483648 := by omega) : nI a ≤ nI b ↔ a ≤ b := nI_leI (by omega) (by omega)
theorem nI_lt' {a b : Nat} (h : a < 2147483648 ∧ b < 2147483648 := by omega) : nI a < nI b ↔ a < b := nI_ltI (by omega) (by omega)
theorem nI_eq' {a b : Nat} (h : a < 2147483648 ∧ b < 2147483648 := by omega) : nI a = nI b ↔ a = b := nI_eq (by omega) (by omega)
theorem nI_sub' {a b : Nat} (h : b ≤ a := by omega) : nI a - nI b = nI (a - b) := pk_sub h
theorem nI_div' {a b : Nat} (h : a < 2147483648 ∧ 0 < b ∧ b < 2147483648 := by omega) : nI a / nI b = nI (a / b) := pk_div (by omega) h.2.1 (by omega)
theorem nI_rem' {a b : Nat} (h : a < 2147483648 ∧ 0 < b ∧ b < 2147483648 := by omega) : jrem (nI a) (nI b) = nI (a % b) := pk_rem (by omega) h.2.1 (by omega)
theorem nI_ne0' {a : Nat} (h : 0 < a ∧ a < 2147483648 := by omega) : ¬ nI a = 0 := nI_ne0 h.1 (by omega)
/-- any number is within bounds, or is none of them -/
theorem nI_within (x : Int32) (lo hi : Int32) : (lo ≤ x ∧ x ≤ hi) ∨ ¬ (lo ≤ x ∧ x ≤ hi) := Classical.em _
theorem nI_from {x : Int32} {n : Nat} (h0 : 0 ≤ x) (h1 : x ≤ nI n) (hn : n < 2147483648 := by omega) : ∃ j : Nat, j ≤ n ∧ x = nI j := nI_of2 (nI_toInt (by omega)) (fun h => by
  rw [Int32.le_iff_toInt_le] at h0; rw [Int32.lt_iff_toInt_lt] at h; omega) h1
theorem upd_s (f : Nat → Int32) (k : Nat) (x : Int32) : upd f k x k = x := pk_us
theorem upd_n (f : Nat → Int32) {k j : Nat} (x : Int32) (h : j ≠ k) : upd f k x j = f j := pk_un h
theorem upd_if (f : Nat → Int32) (k j : Nat) (x : Int32) : upd f k x j = if j = k then x else f j := rfl
/-! the small static rows -/
theorem t_X9_isWithin {v a b : Int32} {K : Int32 → Prop} (h1 : a ≤ v ∧ v ≤ b → K 1) (h0 : ¬ (a ≤ v ∧ v ≤ b) → K 0) : wp_X9_isWithin v a b K := by
  refine ⟨fun c => h0 (fun e => ?_), fun c => ⟨fun c2 => h0 (fun e => ?_), fun c2 => h1 ⟨?_, ?_⟩⟩⟩ <;> simp only [Int32.lt_iff_toInt_lt, Int32.le_iff_toInt_le] at * <;> omega
theorem t_X10_within {v a b : Int32} {K : Int32 → Prop} (h1 : a ≤ v ∧ v ≤ b → K 1) (h0 : ¬ (a ≤ v ∧ v ≤ b) → K 0) : wp_X10_within v a b K := by
  refine ⟨fun c => h0 (fun e => ?_), fun c => ⟨fun c2 => h0 (fun e => ?_), fun c2 => h1 ⟨?_, ?_⟩⟩⟩ <;> simp only [Int32.lt_iff_toInt_lt, Int32.le_iff_toInt_le] at * <;> omega
theorem t_X10_fails {t so kind : Int32} {K : Int32 → Int32 → Prop} (hz : jz so) (h1 : ¬ so = 0 → K so kind) (h0 : so = 0 → K so 0) : wp_X10_fails t so kind K := by
  unfold wp_X10_fails jn1
  exact ⟨fun c => ⟨hz, h0 c⟩, fun c => ⟨hz, h1 c⟩⟩
