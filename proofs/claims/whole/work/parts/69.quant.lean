/-! tables, and the numbers of the transforms -/
def oT (i : Nat) : Nat := [0, 1, 4, 8, 5, 2, 3, 6, 9, 12, 13, 10, 7, 11, 14, 15].getD i 0
def oI (i : Nat) : Nat := [0, 1, 5, 6, 2, 4, 7, 12, 3, 8, 11, 13, 9, 10, 14, 15].getD i 0
def fTb (i : Nat) : Nat := [13107, 8066, 5243, 11916, 7490, 4660, 10082, 6554, 4194, 9362, 5825, 3647, 8192, 5243, 3355, 7282, 4559, 2893].getD i 0
def bTb (i : Nat) : Nat := [10, 13, 16, 11, 14, 18, 13, 16, 20, 14, 18, 23, 16, 20, 25, 18, 23, 29].getD i 0
theorem oT_lt : ∀ i, i < 16 → oT i < 16 := by decide +kernel
theorem oT_oI : ∀ j, j < 16 → oI j < 16 ∧ oT (oI j) = j := by decide +kernel
theorem jm_O : ∀ i, i < 16 → jm_ORDER i = nI (oT i) := by decide +kernel
theorem jm_F : ∀ i, i < 18 → jm_FORTH i = nI (fTb i) ∧ fTb i ≤ 13107 := by decide +kernel
theorem jm_Bk : ∀ i, i < 18 → jm_BACK i = nI (bTb i) ∧ bTb i ≤ 29 := by decide +kernel
def fac (q p : Nat) : Nat := 3 * (q % 6) + (p % 2 + (p / 4) % 2)
theorem fac_lt (q p : Nat) : fac q p < 18 := by unfold fac; omega
theorem t_X8_factorOf {q p : Nat} {K : Int32 → Prop} (hq : q ≤ 51) (hp : p < 16) (h : K (nI (fac q p))) : wp_X8_factorOf (nI p) (nI q) K := by
  unfold wp_X8_factorOf
  intro x hx
  have e2 : (2 : Int32) = nI 2 := rfl
  have e4 : (4 : Int32) = nI 4 := rfl
  have e6 : (6 : Int32) = nI 6 := rfl
  have e3 : (3 : Int32) = nI 3 := rfl
  rw [e2, e4, nI_rem', nI_div', nI_rem', nI_add] at hx
  rw [hx, e6, nI_rem', e3, pk_mul, nI_add]
  exact h
def plen (g : Nat) : Nat := if 4 ≤ g then 6 - g else g
def pfin (g r : Nat) : Nat := if g % 2 = 1 then ((if 4 ≤ g then 3 else g) - r) + 4 * (g - ((if 4 ≤ g then 3 else g) - r)) else ((if 4 ≤ g then g - 3 else 0) + r) + 4 * (g - ((if 4 ≤ g then g - 3 else 0) + r))
theorem pl_cut {K : Int32 → Prop} {X : Int32 → Int32 → Prop} {n g r : Nat} (hg : g ≤ 6) (hr : r < 16) (hx : r ≤ plen g → X (nI g) (nI r)) (hn : ¬ r ≤ plen g → wl_X10_placeOf_6 K X n (nI (g + 1)) (nI (r - (plen g + 1)))) : wl_X10_placeOf_6 K X (n + 1) (nI g) (nI r) := by
  rw [wl_X10_placeOf_6]
  unfold jn1
  have e4 : (4 : Int32) = nI 4 := rfl
  have e6 : (6 : Int32) = nI 6 := rfl
  rw [e4, e6, nI_le', nI_sub']
  unfold plen at hx hn
  by_cases c : 4 ≤ g
  · rw [if_pos c] at hx hn
    refine yes c ?_
    dsimp only
    rw [nI_le']
    refine ⟨hx, fun c2 => yes c (fun x3 q3 x2 q2 => ?_)⟩
    rw [q3, q2, nI_1, nI_1, nI_sub']
    exact hn c2
  · rw [if_neg c] at hx hn
    refine nay c ?_
    dsimp only
    rw [nI_le']
    refine ⟨hx, fun c2 => nay c (fun x3 q3 x2 q2 => ?_)⟩
    rw [q3, q2, nI_1, nI_sub']
    exact hn c2
theorem pl_go {K : Int32 → Prop} {X : Int32 → Int32 → Prop} {n g r : Nat} (hg : g ≤ 6 ∧ r < 16 ∧ ¬ r ≤ plen g) (h : wl_X10_placeOf_6 K X n (nI (g + 1)) (nI (r - (plen g + 1)))) : wl_X10_placeOf_6 K X (n + 1) (nI g) (nI r) :=
  pl_cut hg.1 hg.2.1 (fun c => absurd c hg.2.2) (fun _ => h)
theorem pl_end {K : Int32 → Prop} {X : Int32 → Int32 → Prop} {n g r : Nat} (hg : g ≤ 6 ∧ r < 16 ∧ r ≤ plen g) (h : X (nI g) (nI r)) : wl_X10_placeOf_6 K X (n + 1) (nI g) (nI r) :=
  pl_cut hg.1 hg.2.1 (fun _ => h) (fun c => absurd hg.2.2 c)
theorem pl_fin {K : Int32 → Prop} {g r : Nat} (hg : g ≤ 6 ∧ r ≤ plen g) (h : K (nI (pfin g r))) : jn1 (fun (t0_9 : Int32) => jn1 (fun (t0_10 : Int32) => jn1 (fun (t0_11 : Int32) => K (t0_11 + (4 * (nI g - t0_11)))) (fun J_11 => (((jrem (nI g) 2) = 1 → J_11 (t0_10 - nI r)) ∧ (¬ (jrem (nI g) 2) = 1 → J_11 (t0_9 + nI r))))) (fun J_10 => ((4 ≤ nI g → J_10 3) ∧ (¬ 4 ≤ nI g → J_10 (nI g))))) (fun J_9 => ((4 ≤ nI g → J_9 (nI g - 3)) ∧ (¬ 4 ≤ nI g → J_9 0))) := by
  unfold jn1
  have e4 : (4 : Int32) = nI 4 := rfl
  have e3 : (3 : Int32) = nI 3 := rfl
  have e2 : (2 : Int32) = nI 2 := rfl
  have e1 : (1 : Int32) = nI 1 := rfl
  have e0 : (0 : Int32) = nI 0 := rfl
  rw [e4, e3, e2, e1, e0, nI_le', nI_rem', nI_eq']
  obtain ⟨hg, hr⟩ := hg
  unfold plen at hr
  unfold pfin at h
  by_cases c : 4 ≤ g
  · rw [if_pos c] at hr
    rw [if_pos c, if_pos c] at h
    refine yes c (yes c ⟨fun c2 => ?_, fun c2 => ?_⟩)
    · rw [if_pos c2] at h
      rw [nI_sub', nI_sub', pk_mul, nI_add]; exact h
    · rw [if_neg c2] at h
      rw [nI_sub', nI_add, nI_sub', pk_mul, nI_add]; exact h
  · rw [if_neg c] at hr
    rw [if_neg c, if_neg c] at h
    refine nay c (nay c ⟨fun c2 => ?_, fun c2 => ?_⟩)
    · rw [if_pos c2] at h
      rw [nI_sub', nI_sub', pk_mul, nI_add]; exact h
    · rw [if_neg c2] at h
      rw [nI_add, nI_sub', pk_mul, nI_add]; exact h
theorem t_X10_placeOf {i : Nat} {K : Int32 → Prop} (hi : i < 16) (h : K (nI (oT i))) : wp_X10_placeOf (nI i) K := by
  have hcs : i = 0 ∨ i = 1 ∨ i = 2 ∨ i = 3 ∨ i = 4 ∨ i = 5 ∨ i = 6 ∨ i = 7 ∨ i = 8 ∨ i = 9 ∨ i = 10 ∨ i = 11 ∨ i = 12 ∨ i = 13 ∨ i = 14 ∨ i = 15 := by omega
  unfold wp_X10_placeOf
  refine ⟨8, ?_⟩
  rcases hcs with rfl | rfl | rfl | rfl | rfl | rfl | rfl | rfl | rfl | rfl | rfl | rfl | rfl | rfl | rfl | rfl
  · exact pl_end (g := 0) (by decide) (pl_fin (by decide) h)
  · exact pl_go (g := 0) (by decide) (pl_end (by decide) (pl_fin (by decide) h))
  · exact pl_go (g := 0) (by decide) (pl_end (by decide) (pl_fin (by decide) h))
  · exact pl_go (g := 0) (by decide) (pl_go (by decide) (pl_end (by decide) (pl_fin (by decide) h)))
  · exact pl_go (g := 0) (by decide) (pl_go (by decide) (pl_end (by decide) (pl_fin (by decide) h)))
  · exact pl_go (g := 0) (by decide) (pl_go (by decide) (pl_end (by decide) (pl_fin (by decide) h)))
  · exact pl_go (g := 0) (by decide) (pl_go (by decide) (pl_go (by decide) (pl_end (by decide) (pl_fin (by decide) h))))
  · exact pl_go (g := 0) (by decide) (pl_go (by decide) (pl_go (by decide) (pl_end (by decide) (pl_fin (by decide) h))))
  · exact pl_go (g := 0) (by decide) (pl_go (by decide) (pl_go (by decide) (pl_end (by decide) (pl_fin (by decide) h))))
  · exact pl_go (g := 0) (by decide) (pl_go (by decide) (pl_go (by decide) (pl_end (by decide) (pl_fin (by decide) h))))
  · exact pl_go (g := 0) (by decide) (pl_go (by decide) (pl_go (by decide) (pl_go (by decide) (pl_end (by decide) (pl_fin (by decide) h)))))
  · exact pl_go (g := 0) (by decide) (pl_go (by decide) (pl_go (by decide) (pl_go (by decide) (pl_end (by decide) (pl_fin (by decide) h)))))
  · exact pl_go (g := 0) (by decide) (pl_go (by decide) (pl_go (by decide) (pl_go (by decide) (pl_end (by decide) (pl_fin (by decide) h)))))
  · exact pl_go (g := 0) (by decide) (pl_go (by decide) (pl_go (by decide) (pl_go (by decide) (pl_go (by decide) (pl_end (by decide) (pl_fin (by decide) h))))))
  · exact pl_go (g := 0) (by decide) (pl_go (by decide) (pl_go (by decide) (pl_go (by decide) (pl_go (by decide) (pl_end (by decide) (pl_fin (by decide) h))))))
  · exact pl_go (g := 0) (by decide) (pl_go (by decide) (pl_go (by decide) (pl_go (by decide) (pl_go (by decide) (pl_go (by decide) (pl_end (by decide) (pl_fin (by decide) h)))))))
theorem t_pick {u : Nat} {x0 x1 x2 x3 x4 x5 : Int32} {K : Int32 → Prop} (hu : u < 6) (h : K ([x0, x1, x2, x3, x4, x5].getD u 0)) : wp_X10_pick (nI u) x0 x1 x2 x3 x4 x5 K := by
  have hcs : u = 0 ∨ u = 1 ∨ u = 2 ∨ u = 3 ∨ u = 4 ∨ u = 5 := by omega
  unfold wp_X10_pick
  rcases hcs with rfl | rfl | rfl | rfl | rfl | rfl
  · exact yes rfl h
  · exact nay (by decide) (yes rfl h)
  · exact nay (by decide) (nay (by decide) (yes rfl h))
  · exact nay (by decide) (nay (by decide) (nay (by decide) (yes rfl h)))
  · exact nay (by decide) (nay (by decide) (nay (by decide) (nay (by decide) (yes rfl h))))
  · exact nay (by decide) (nay (by decide) (nay (by decide) (nay (by decide) (nay (by decide) h))))
theorem pk_tabF : ∀ u, u < 6 → ([13107, 11916, 10082, 9362, 8192, 7282] : List Int32).getD u 0 = nI (fTb (3 * u)) ∧ ([8066, 7490, 6554, 5825, 5243, 4559] : List Int32).getD u 0 = nI (fTb (3 * u + 1)) ∧ ([5243, 4660, 4194, 3647, 3355, 2893] : List Int32).getD u 0 = nI (fTb (3 * u + 2)) := by decide +kernel
theorem pk_tabB : ∀ u, u < 6 → ([10, 11, 13, 14, 16, 18] : List Int32).getD u 0 = nI (bTb (3 * u)) ∧ ([13, 14, 16, 18, 20, 23] : List Int32).getD u 0 = nI (bTb (3 * u + 1)) ∧ ([16, 18, 20, 23, 25, 29] : List Int32).getD u 0 = nI (bTb (3 * u + 2)) := by decide +kernel
theorem t_X10_forthBy {q p : Nat} {K : Int32 → Prop} (hq : q ≤ 51) (hp : p < 16) (h : K (nI (fTb (fac q p)))) : wp_X10_forthBy (nI q) (jrem (nI p) 4) (nI p / 4) K := by
  unfold wp_X10_forthBy wp_X10_odd
  have e2 : (2 : Int32) = nI 2 := rfl
  have e4 : (4 : Int32) = nI 4 := rfl
  have e6 : (6 : Int32) = nI 6 := rfl
  have e0 : (0 : Int32) = nI 0 := rfl
  intro x hx
  rw [e6, nI_rem'] at hx
  subst hx
  rw [e2, e4, nI_rem', nI_div', nI_rem', nI_rem', nI_add, e0, nI_eq', nI_eq']
  have hu : q % 6 < 6 := by omega
  obtain ⟨t0, t1, t2⟩ := pk_tabF _ hu
  unfold fac at h
  have hw : p % 4 % 2 + p / 4 % 2 = 0 ∨ p % 4 % 2 + p / 4 % 2 = 1 ∨ p % 4 % 2 + p / 4 % 2 = 2 := by omega
  have ew : p % 2 + p / 4 % 2 = p % 4 % 2 + p / 4 % 2 := by omega
  rw [ew] at h
  rcases hw with w | w | w <;> rw [w] at h ⊢
  · exact yes rfl (t_pick hu (by rw [t0]; exact h))
  · exact nay (by decide) (nay (by decide) (t_pick hu (by rw [t1]; exact h)))
  · exact nay (by decide) (yes rfl (t_pick hu (by rw [t2]; exact h)))
theorem t_X10_backBy {q p : Nat} {K : Int32 → Prop} (hq : q ≤ 51) (hp : p < 16) (h : K (nI (bTb (fac q p)))) : wp_X10_backBy (nI q) (jrem (nI p) 4) (nI p / 4) K := by
  unfold wp_X10_backBy wp_X10_odd
  have e2 : (2 : Int32) = nI 2 := rfl
  have e4 : (4 : Int32) = nI 4 := rfl
  have e6 : (6 : Int32) = nI 6 := rfl
  have e0 : (0 : Int32) = nI 0 := rfl
  intro x hx
  rw [e6, nI_rem'] at hx
  subst hx
  rw [e2, e4, nI_rem', nI_div', nI_rem', nI_rem', nI_add, e0, nI_eq', nI_eq']
  have hu : q % 6 < 6 := by omega
  obtain ⟨t0, t1, t2⟩ := pk_tabB _ hu
  unfold fac at h
  have hw : p % 4 % 2 + p / 4 % 2 = 0 ∨ p % 4 % 2 + p / 4 % 2 = 1 ∨ p % 4 % 2 + p / 4 % 2 = 2 := by omega
  have ew : p % 2 + p / 4 % 2 = p % 4 % 2 + p / 4 % 2 := by omega
  rw [ew] at h
  rcases hw with w | w | w <;> rw [w] at h ⊢
  · exact yes rfl (t_pick hu (by rw [t0]; exact h))
  · exact nay (by decide) (nay (by decide) (t_pick hu (by rw [t1]; exact h)))
  · exact nay (by decide) (yes rfl (t_pick hu (by rw [t2]; exact h)))
/-! levels -/
def levN (q p : Nat) (c : Int32) : Nat := (c.toInt.natAbs * fTb (fac q p) + 2 ^ (15 + q / 6) / 3) / 2 ^ (15 + q / 6)
def lev (q p : Nat) (c : Int32) : Int32 := if 0 ≤ c then nI (levN q p c) else -nI (levN q p c)
def qz (f : Nat → Int32) (q i : Nat) : Int32 := lev q (oT i) (f (oT i))
theorem pw_bd {q : Nat} (hq : q ≤ 51) : 32768 ≤ 2 ^ (15 + q / 6) ∧ 2 ^ (15 + q / 6) ≤ 8388608 :=
  ⟨Nat.pow_le_pow_right (n := 2) (i := 15) (by decide) (by omega), Nat.pow_le_pow_right (n := 2) (j := 23) (by decide) (by omega)⟩
theorem lev_num {q p : Nat} {c : Int32} (hc : bnd 9180 c) : c.toInt.natAbs * fTb (fac q p) ≤ 9180 * 13107 := Nat.mul_le_mul hc (jm_F _ (fac_lt q p)).2
theorem levN_lt {q p : Nat} {c : Int32} (hq : q ≤ 51) (hc : bnd 9180 c) : levN q p c < 4095 := by
  have h1 := pw_bd hq
  have h2 := lev_num (q := q) (p := p) hc
  unfold levN
  generalize 2 ^ (15 + q / 6) = V at *
  exact Nat.div_lt_of_lt_mul (by omega)
theorem lev_bnd {q p : Nat} {c : Int32} (hq : q ≤ 51) (hc : bnd 9180 c) : bnd 4095 (lev q p c) := by
  have h := levN_lt (p := p) hq hc
  unfold lev bnd
  split
  · rw [nI_toInt (by omega)]; omega
  · rw [zI_nat, zI_neg, zI_toInt]; omega
theorem abs_n {x : Int32} {M : Nat} (hx : bnd M x) (hM : M ≤ 2147483647 := by omega) : jabs x = nI x.toInt.natAbs := by
  unfold bnd at hx
  show (if 0 ≤ x then x else 0 - x) = _
  have e0 : (0 : Int32).toInt = 0 := by decide
  have ez : (0 : Int32) = zI 0 := rfl
  rw [zI_nat]
  split
  · next c =>
    rw [Int32.le_iff_toInt_le, e0] at c
    rw [Int.natAbs_of_nonneg c]; exact zI_of x
  · next c =>
    rw [Int32.le_iff_toInt_le, e0] at c
    have : ((x.toInt.natAbs : Nat) : Int) = -x.toInt := by omega
    rw [this, ← zI_neg, ← zI_of, ez]
    rw [zI_of x, zI_sub, zI_neg]; congr 1; omega
theorem t_X10_size {x : Int32} {M : Nat} {K : Int32 → Prop} (hx : bnd M x) (hM : M ≤ 2147483647) (h : K (nI x.toInt.natAbs)) : wp_X10_size x K := by
  rw [← abs_n hx hM] at h
  change K (if 0 ≤ x then x else 0 - x) at h
  unfold wp_X10_size
  have ez : (0 : Int32) = zI 0 := rfl
  refine ⟨fun c => ?_, fun c => ?_⟩
  · rw [if_pos c] at h; exact h
  · rw [if_neg c, Int32.zero_sub] at h; exact h
theorem lev_eq {q p : Nat} {c : Int32} (hq : q ≤ 51) (hc : bnd 9180 c) (hp : p < 16) : ((jabs c * nI (fTb (fac q p))) + nI (2 ^ (15 + q / 6) / 3)) >>> (nI (15 + q / 6) &&& 31) = nI (levN q p c) := by
  have h1 := pw_bd hq
  have h2 := lev_num (q := q) (p := p) hc
  rw [abs_n hc, pk_mul, nI_add]
  refine pk_shrN ?_ _ _ (sh31 _ (by omega))
  generalize 2 ^ (15 + q / 6) = V at *
  omega
theorem lev_eq64 {q p : Nat} {c : Int32} (hq : q ≤ 51) (hc : bnd 9180 c) (hp : p < 16) : (((((nI c.toInt.natAbs).toInt64) * ((nI (fTb (fac q p))).toInt64)) + ((nI (2 ^ (15 + q / 6)) / 3).toInt64)) / ((nI (2 ^ (15 + q / 6))).toInt64)).toInt32 = nI (levN q p c) := by
  have h1 := pw_bd hq
  have h2 := lev_num (q := q) (p := p) hc
  have h3 := (jm_F _ (fac_lt q p)).2
  unfold levN
  unfold bnd at hc
  generalize 2 ^ (15 + q / 6) = V at *
  have e3 : (3 : Int32) = nI 3 := rfl
  rw [e3, nI_div' , nI_l (by omega), nI_l (by omega), nI_l (by omega), nI_l (by omega), lN_mul, lN_add, pk_lDiv (by omega) (by omega) (by omega), lN_i]
theorem t_X8_forth_66 {b q : Nat} {f lv : Nat → Int32} {K : (Nat → Int32) → (Nat → Int32) → Prop} {X : Int32 → (Nat → Int32) → Prop} (hb : b < 64) (hq : q ≤ 51) (hf : bd 9180 f) (h : ∀ v, X v (lay4 lv (16 * b) 16 (qz f q))) :
    ∃ k, wl_X8_forth_66 (nI (16 * b)) (nI q) (nI (15 + q / 6)) (nI (2 ^ (15 + q / 6) / 3)) f K X k 0 lv := by
  have key := loopS (fun n i g => wl_X8_forth_66 (nI (16 * b)) (nI q) (nI (15 + q / 6)) (nI (2 ^ (15 + q / 6) / 3)) f K X n (nI i) g) (fun i => lay4 lv (16 * b) i (qz f q)) 16 (fun n => ?_) (fun n i hi ih => ?_)
  · obtain ⟨k, hk⟩ := key
    refine ⟨k, ?_⟩
    rw [lay4_0] at hk
    exact hk
  · rw [wl_X8_forth_66]; exact yes (by decide) (h _)
  · rw [wl_X8_forth_66]
    have ho := oT_lt i hi
    refine nay (nI_ge (a := i) (b := 16) hi (by decide)) ⟨nI_in', fun p hp => ?_⟩
    rw [jat_nI, jm_O i hi] at hp
    subst hp
    refine ⟨nI_in', fun c hc => ?_⟩
    rw [jat_nI] at hc
    subst hc
    refine t_X8_factorOf hq ho ⟨nI_in' (h := ⟨fac_lt q _, by decide⟩), fun z hz => ?_⟩
    rw [jat_nI _ (by have := fac_lt q (oT i); omega), (jm_F _ (fac_lt q _)).1, lev_eq hq (hf _ ho) ho] at hz
    subst hz
    unfold jn1
    rw [nI_add]
    have step : ∀ t : Int32, t = qz f q i → vp_in (nI (16 * b + i)) 1024 ∧ ∀ x6_22 : Int32, x6_22 = nI i + 1 → wl_X8_forth_66 (nI (16 * b)) (nI q) (nI (15 + q / 6)) (nI (2 ^ (15 + q / 6) / 3)) f K X n x6_22 (jup (lay4 lv (16 * b) i (qz f q)) (nI (16 * b + i)) t) := by
      intro t ht
      refine ⟨nI_in', fun x hx => ?_⟩
      rw [hx, nI_1, jup_nI, ht, lay4_s]
      exact ih
    refine ⟨fun c => step _ ?_, fun c => step _ ?_⟩
    · unfold qz lev; rw [if_pos c]
    · unfold qz lev; rw [if_neg c]
def FF (f : Nat → Int32) : Nat → Int32 := stC forthL (stR forthL f 4) 4
theorem FF_bd {f : Nat → Int32} (hf : bd 255 f) : bd 9180 (FF f) := fun j hj =>
  (stC_bd (forthL_bnd (M := 1530) (by decide)) (by decide) (fun j hj => (stR_bd (forthL_bnd (M := 255) (by decide)) (by decide) hf 4 (by decide) j hj).1) 4 (by decide) j hj).1
theorem FF_agr {f g : Nat → Int32} (h : agr f g) : agr (FF f) (FF g) := stC_agr (fun _ _ _ _ => forthL_agr) (stR_agr (fun _ _ _ _ => forthL_agr) h 4 (by decide)) 4 (by decide)
theorem nI_d6 {q : Nat} (hq : q ≤ 51) : nI q / 6 = nI (q / 6) := nI_div' (b := 6) (by omega)
theorem t_X8_forth {b q : Nat} {f lv : Nat → Int32} {K : (Nat → Int32) → (Nat → Int32) → Prop} (hb : b < 64) (hq : q ≤ 51) (hf : bd 255 f) (h : K (FF f) (lay4 lv (16 * b) 16 (qz (FF f) q))) : wp_X8_forth f lv (nI (16 * b)) (nI q) K := by
  refine t_X8_forth_3 (fun _ => t_X8_forth_27 (fun _ x4 h4 x5 h5 => ?_))
  have e15 : (15 : Int32) = nI 15 := rfl
  have e1 : (1 : Int32) = nI 1 := rfl
  have e3 : (3 : Int32) = nI 3 := rfl
  have h1 := pw_bd hq
  rw [nI_d6 hq, e15, nI_add] at h4
  subst h4
  rw [e1, pk_shlN _ _ (sh31 _ (by omega)) (by omega), Nat.one_mul, e3, nI_div'] at h5
  subst h5
  exact t_X8_forth_66 hb hq (FF_bd hf) (fun _ => h)
theorem t_X10_goForth_104 {q : Nat} {K : (Nat → Int32) → (Nat → Int32) → Prop} {X : Int32 → Int32 → Prop} (hq : q ≤ 51) (h : ∀ v, X (nI (2 ^ (15 + q / 6))) v) : ∃ k, wl_X10_goForth_104 (nI q) K X k 32768 0 := by
  have key := loopS (fun n i s => wl_X10_goForth_104 (nI q) K X n s (nI i)) (fun i => nI (2 ^ (15 + i))) (q / 6) (fun n => ?_) (fun n i hi ih => ?_)
  · exact key
  · rw [wl_X10_goForth_104, nI_d6 hq, nI_le']; exact yes (by omega) (h _)
  · rw [wl_X10_goForth_104, nI_d6 hq, nI_le']
    refine nay (by omega) (fun x hx y hy => ?_)
    have e2 : (2 : Int32) = nI 2 := rfl
    rw [hx, hy, nI_1, e2, pk_mul]
    have e : 2 * 2 ^ (15 + i) = 2 ^ (15 + (i + 1)) := by rw [← Nat.add_assoc, Nat.pow_succ]; omega
    rw [e]; exact ih
theorem t_X10_goForth_128 {b q : Nat} {f lv : Nat → Int32} {K : (Nat → Int32) → (Nat → Int32) → Prop} {X : Int32 → (Nat → Int32) → Prop} (hb : b < 64) (hq : q ≤ 51) (hf : bd 9180 f) (h : ∀ v, X v (lay4 lv (16 * b) 16 (qz f q))) :
    ∃ k, wl_X10_goForth_128 (nI b) (nI q) (nI (2 ^ (15 + q / 6))) f K X k 0 lv := by
  have key := loopS (fun n i g => wl_X10_goForth_128 (nI b) (nI q) (nI (2 ^ (15 + q / 6))) f K X n (nI i) g) (fun i => lay4 lv (16 * b) i (qz f q)) 16 (fun n => ?_) (fun n i hi ih => ?_)
  · obtain ⟨k, hk⟩ := key
    refine ⟨k, ?_⟩
    rw [lay4_0] at hk
    exact hk
  · rw [wl_X10_goForth_128]; exact yes (by decide) (h _)
  · rw [wl_X10_goForth_128]
    have ho := oT_lt i hi
    refine nay (nI_ge (a := i) (b := 16) hi (by decide)) (t_X10_placeOf hi ⟨nI_in', ?_⟩)
    rw [jat_nI]
    refine t_X10_size (hf _ ho) (by decide) (t_X10_forthBy hq ho ⟨?_, fun z hz => ⟨nI_in', ?_⟩⟩)
    · have h1 := pw_bd hq
      have e0 : (0 : Int64) = lN 0 := rfl
      rw [nI_l (by omega), e0, pk_lEQ (by omega) (by omega)]; omega
    · rw [lev_eq64 hq (hf _ ho) ho] at hz
      subst hz
      unfold jn1
      have e16 : (16 * nI b) + nI i = nI (16 * b + i) := by
        show nI 16 * nI b + nI i = _
        rw [pk_mul, nI_add]
      rw [e16]
      have step : ∀ t : Int32, t = qz f q i → vp_in (nI (16 * b + i)) 1024 ∧ ∀ x6_22 : Int32, x6_22 = nI i + 1 → wl_X10_goForth_128 (nI b) (nI q) (nI (2 ^ (15 + q / 6))) f K X n x6_22 (jup (lay4 lv (16 * b) i (qz f q)) (nI (16 * b + i)) t) := by
        intro t ht
        refine ⟨nI_in', fun x hx => ?_⟩
        rw [hx, nI_1, jup_nI, ht, lay4_s]
        exact ih
      refine ⟨fun c => step _ ?_, fun c => step _ ?_⟩
      · unfold qz lev; rw [if_pos c]
      · unfold qz lev; rw [if_neg c]
