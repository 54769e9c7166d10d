/-! the transforms, both sides alike -/
theorem loopS {σ : Type} (W : Nat → Nat → σ → Prop) (S : Nat → σ) (e : Nat) (hx : ∀ n, W (n + 1) e (S e)) (hs : ∀ n i, i < e → W n (i + 1) (S (i + 1)) → W (n + 1) i (S i)) : ∃ n, W n 0 (S 0) :=
  pk_loop W (fun i s => s = S i) e 0 (S 0) (by omega) rfl (fun n s h => by rw [h]; exact hx n) (fun n i s hi h ih => by rw [h]; exact hs n i hi (ih _ rfl))
def agr (f g : Nat → Int32) : Prop := ∀ j, j < 16 → f j = g j
def bnd (M : Nat) (x : Int32) : Prop := x.toInt.natAbs ≤ M
def bd (M : Nat) (f : Nat → Int32) : Prop := ∀ j, j < 16 → bnd M (f j)
theorem bnd_add {M N : Nat} {x y : Int32} (hx : bnd M x) (hy : bnd N y) (h : M + N ≤ 2147483647 := by omega) : bnd (M + N) (x + y) := by
  unfold bnd at *
  rw [zI_of x, zI_of y, zI_add, zI_toInt]; omega
theorem bnd_sub {M N : Nat} {x y : Int32} (hx : bnd M x) (hy : bnd N y) (h : M + N ≤ 2147483647 := by omega) : bnd (M + N) (x - y) := by
  unfold bnd at *
  rw [zI_of x, zI_of y, zI_sub, zI_toInt]; omega
theorem bnd_2 {M : Nat} {x : Int32} (hx : bnd M x) (h : 2 * M ≤ 2147483647 := by omega) : bnd (2 * M) (2 * x) := by
  unfold bnd at *
  have e2 : (2 : Int32) = zI 2 := rfl
  rw [zI_of x, e2, zI_mul, zI_toInt]; omega
theorem bnd_mono {M N : Nat} {x : Int32} (hx : bnd M x) (h : M ≤ N := by omega) : bnd N x := Nat.le_trans hx h
theorem bnd_mul {M N n : Nat} {x : Int32} (hx : bnd M x) (hn : n ≤ N) (h : M * N ≤ 2147483647) : bnd (M * N) (x * nI n) := by
  unfold bnd at *
  have hz : (x.toInt * (n : Int)).natAbs ≤ M * N := by
    rw [Int.natAbs_mul]; exact Nat.mul_le_mul hx (by omega)
  rw [zI_of x, zI_nat, zI_mul, zI_toInt (by omega)]; exact hz
theorem sh31 : ∀ n, n < 32 → ((nI n &&& 31).toBitVec.smod 32).toNat = n := by decide +kernel
theorem shr_z {x : Int32} {k : Nat} (hk : k < 32) {D : Int} (hD : ((2 ^ k : Nat) : Int) = D) : x >>> (nI k &&& 31) = zI (x.toInt / D) := by
  have h := pk_shr x (nI k &&& 31) k (sh31 k hk)
  rw [Int.shiftRight_eq_div_pow, hD] at h
  rw [← h]; exact zI_of _
theorem bnd_shr1 {M : Nat} {x : Int32} (hx : bnd M x) (hM : M ≤ 2147483647) : bnd M (x >>> ((1 : Int32) &&& 31)) := by
  have e : x >>> ((1 : Int32) &&& 31) = zI (x.toInt / 2) := shr_z (k := 1) (by decide) rfl
  unfold bnd at *
  rw [e, zI_toInt]; omega
theorem t_down {x : Int32} {D : Int} {k : Nat} {K : Int32 → Prop} (hD : (D = 2 ∧ k = 1) ∨ (D = 8 ∧ k = 3) ∨ (D = 64 ∧ k = 6)) (hx : -2147483000 ≤ x.toInt) (h : K (x >>> (nI k &&& 31))) : wp_X10_down x (zI D) K := by
  have e : x >>> (nI k &&& 31) = zI (x.toInt / D) := by
    rcases hD with ⟨rfl, rfl⟩ | ⟨rfl, rfl⟩ | ⟨rfl, rfl⟩ <;> exact shr_z (by decide) rfl
  rw [e] at h
  have hx2 : x.toInt ≤ 2147483647 := Int32.toInt_le x
  have hne : ¬ zI D = 0 := by
    have e0 : (0 : Int32) = zI 0 := rfl
    rw [e0, zI_eq]; omega
  have e0 : (0 : Int32) = zI 0 := rfl
  have e1 : (1 : Int32) = zI 1 := rfl
  unfold wp_X10_down
  generalize hX : x.toInt = X at *
  have exz : x = zI X := by rw [← hX]; exact zI_of x
  rw [exz]
  refine ⟨fun c => ⟨hne, ?_⟩, fun c => ⟨hne, ?_⟩⟩
  · rw [e0, zI_lt] at c
    rw [e1, zI_sub, zI_sub, zI_div, zI_td, zI_neg]
    have : -((D - 1 - X) / D) = X / D := by
      rcases hD with ⟨rfl, rfl⟩ | ⟨rfl, rfl⟩ | ⟨rfl, rfl⟩ <;> omega
    rw [this]; exact h
  · rw [e0, zI_lt] at c
    rw [zI_div, zI_td]; exact h
/-! a line forth -/
def forthL (f : Nat → Int32) (p s : Nat) : Nat → Int32 :=
  upd (upd (upd (upd f p ((f p + f (p + 3 * s)) + (f (p + s) + f (p + 2 * s)))) (p + s) ((2 * (f p - f (p + 3 * s))) + (f (p + s) - f (p + 2 * s)))) (p + 2 * s) ((f p + f (p + 3 * s)) - (f (p + s) + f (p + 2 * s)))) (p + 3 * s) ((f p - f (p + 3 * s)) - (2 * (f (p + s) - f (p + 2 * s))))
def backL (f : Nat → Int32) (p s : Nat) : Nat → Int32 :=
  upd (upd (upd (upd f p ((f p + f (p + 2 * s)) + (f (p + s) + (f (p + 3 * s) >>> ((1 : Int32) &&& 31))))) (p + s) ((f p - f (p + 2 * s)) + ((f (p + s) >>> ((1 : Int32) &&& 31)) - f (p + 3 * s)))) (p + 2 * s) ((f p - f (p + 2 * s)) - ((f (p + s) >>> ((1 : Int32) &&& 31)) - f (p + 3 * s)))) (p + 3 * s) ((f p + f (p + 2 * s)) - (f (p + s) + (f (p + 3 * s) >>> ((1 : Int32) &&& 31))))
theorem ix2 (p s : Nat) : nI p + (2 * nI s) = nI (p + 2 * s) := by
  show nI p + nI 2 * nI s = _
  rw [pk_mul, nI_add]
theorem ix3 (p s : Nat) : nI p + (3 * nI s) = nI (p + 3 * s) := by
  show nI p + nI 3 * nI s = _
  rw [pk_mul, nI_add]
theorem t_X8_forthLine {f : Nat → Int32} {p s : Nat} {K : (Nat → Int32) → Prop} (h : p + 3 * s < 16) (hK : K (forthL f p s)) : wp_X8_forthLine f (nI p) (nI s) K := by
  unfold wp_X8_forthLine
  rw [ix2, ix3, nI_add]
  refine ⟨nI_in', fun x3 q3 => ⟨nI_in', fun x4 q4 => ⟨nI_in', fun x5 q5 => ⟨nI_in', fun x6 q6 x7 q7 x8 q8 x9 q9 x10 q10 => ⟨nI_in', nI_in', nI_in', nI_in', ?_⟩⟩⟩⟩⟩
  rw [jat_nI] at q3 q4 q5 q6
  subst q7 q8 q9 q10 q3 q4 q5 q6
  rw [jup_nI, jup_nI, jup_nI, jup_nI]
  exact hK
theorem t_X10_forthLine {f : Nat → Int32} {p s : Nat} {K : (Nat → Int32) → Prop} (h : p + 3 * s < 16) (hK : K (forthL f p s)) : wp_X10_forthLine f (nI p) (nI s) K := t_X8_forthLine h hK
theorem t_X8_backLine {f : Nat → Int32} {p s : Nat} {K : (Nat → Int32) → Prop} (h : p + 3 * s < 16) (hK : K (backL f p s)) : wp_X8_backLine f (nI p) (nI s) K := by
  unfold wp_X8_backLine
  rw [ix2, ix3, nI_add]
  refine ⟨nI_in', fun x3 q3 => ⟨nI_in', fun x4 q4 => ⟨nI_in', fun x5 q5 => ⟨nI_in', fun x6 q6 x7 q7 x8 q8 x9 q9 x10 q10 => ⟨nI_in', nI_in', nI_in', nI_in', ?_⟩⟩⟩⟩⟩
  rw [jat_nI] at q3 q4 q5 q6
  subst q7 q8 q9 q10 q3 q4 q5 q6
  rw [jup_nI, jup_nI, jup_nI, jup_nI]
  exact hK
theorem t_X10_backLine {f : Nat → Int32} {p s : Nat} {K : (Nat → Int32) → Prop} (h : p + 3 * s < 16) (h1 : bnd 2147483000 (f (p + s))) (h3 : bnd 2147483000 (f (p + 3 * s))) (hK : K (backL f p s)) : wp_X10_backLine f (nI p) (nI s) K := by
  unfold wp_X10_backLine
  rw [ix2, ix3, nI_add]
  unfold bnd at h1 h3
  refine ⟨nI_in', fun x3 q3 => ⟨nI_in', fun x4 q4 => ⟨nI_in', fun x5 q5 => ⟨nI_in', fun x6 q6 x7 q7 x8 q8 => ?_⟩⟩⟩⟩
  rw [jat_nI] at q3 q4 q5 q6
  subst q7 q8 q3 q4 q5 q6
  refine t_down (D := 2) (k := 1) (Or.inl ⟨rfl, rfl⟩) (by omega) (fun x9 q9 => t_down (D := 2) (k := 1) (Or.inl ⟨rfl, rfl⟩) (by omega) (fun x10 q10 => ⟨nI_in', nI_in', nI_in', nI_in', ?_⟩))
  subst q9 q10
  rw [jup_nI, jup_nI, jup_nI, jup_nI]
  exact hK
def stR (L : (Nat → Int32) → Nat → Nat → Nat → Int32) (f : Nat → Int32) : Nat → Nat → Int32
  | 0 => f
  | i + 1 => L (stR L f i) (4 * i) 1
def stC (L : (Nat → Int32) → Nat → Nat → Nat → Int32) (f : Nat → Int32) : Nat → Nat → Int32
  | 0 => f
  | i + 1 => L (stC L f i) i 4
theorem forthL_agr {f g : Nat → Int32} {p s : Nat} (h : p + 3 * s < 16) (ha : agr f g) : agr (forthL f p s) (forthL g p s) := by
  intro j hj
  unfold forthL
  rw [ha p (by omega), ha (p + s) (by omega), ha (p + 2 * s) (by omega), ha (p + 3 * s) h]
  simp only [upd_if, ha j hj]
theorem backL_agr {f g : Nat → Int32} {p s : Nat} (h : p + 3 * s < 16) (ha : agr f g) : agr (backL f p s) (backL g p s) := by
  intro j hj
  unfold backL
  rw [ha p (by omega), ha (p + s) (by omega), ha (p + 2 * s) (by omega), ha (p + 3 * s) h]
  simp only [upd_if, ha j hj]
theorem stR_agr {L : (Nat → Int32) → Nat → Nat → Nat → Int32} (hL : ∀ f g p s, p + 3 * s < 16 → agr f g → agr (L f p s) (L g p s)) {f g : Nat → Int32} (ha : agr f g) : ∀ i, i ≤ 4 → agr (stR L f i) (stR L g i)
  | 0, _ => ha
  | i + 1, h => hL _ _ _ _ (by omega) (stR_agr hL ha i (by omega))
theorem stC_agr {L : (Nat → Int32) → Nat → Nat → Nat → Int32} (hL : ∀ f g p s, p + 3 * s < 16 → agr f g → agr (L f p s) (L g p s)) {f g : Nat → Int32} (ha : agr f g) : ∀ i, i ≤ 4 → agr (stC L f i) (stC L g i)
  | 0, _ => ha
  | i + 1, h => hL _ _ _ _ (by omega) (stC_agr hL ha i (by omega))
/-- a line's bound -/
def lB (L : (Nat → Int32) → Nat → Nat → Nat → Int32) (M N : Nat) : Prop := ∀ f p s j, bnd M (f p) → bnd M (f (p + s)) → bnd M (f (p + 2 * s)) → bnd M (f (p + 3 * s)) →
  ((j = p ∨ j = p + s ∨ j = p + 2 * s ∨ j = p + 3 * s) ∧ bnd N (L f p s j)) ∨ ((j ≠ p ∧ j ≠ p + s ∧ j ≠ p + 2 * s ∧ j ≠ p + 3 * s) ∧ L f p s j = f j)
theorem forthL_bnd {M : Nat} (hM : 6 * M ≤ 2147483647) : lB forthL M (6 * M) := by
  intro f p s j h0 h1 h2 h3
  unfold forthL
  by_cases c3 : j = p + 3 * s
  · left; refine ⟨by omega, ?_⟩; rw [upd_if, if_pos c3]; exact bnd_mono (bnd_sub (bnd_sub h0 h3) (bnd_2 (bnd_sub h1 h2)))
  · rw [upd_if, if_neg c3]
    by_cases c2 : j = p + 2 * s
    · left; refine ⟨by omega, ?_⟩; rw [upd_if, if_pos c2]; exact bnd_mono (bnd_sub (bnd_add h0 h3) (bnd_add h1 h2))
    · rw [upd_if, if_neg c2]
      by_cases c1 : j = p + s
      · left; refine ⟨by omega, ?_⟩; rw [upd_if, if_pos c1]; exact bnd_mono (bnd_add (bnd_2 (bnd_sub h0 h3)) (bnd_sub h1 h2))
      · rw [upd_if, if_neg c1]
        by_cases c0 : j = p
        · left; refine ⟨by omega, ?_⟩; rw [upd_if, if_pos c0]; exact bnd_mono (bnd_add (bnd_add h0 h3) (bnd_add h1 h2))
        · right; rw [upd_if, if_neg c0]; exact ⟨⟨c0, c1, c2, c3⟩, rfl⟩
theorem backL_bnd {M : Nat} (hM : 4 * M ≤ 2147483647) : lB backL M (4 * M) := by
  intro f p s j h0 h1 h2 h3
  have g1 := bnd_shr1 h1 (by omega)
  have g3 := bnd_shr1 h3 (by omega)
  unfold backL
  by_cases c3 : j = p + 3 * s
  · left; refine ⟨by omega, ?_⟩; rw [upd_if, if_pos c3]; exact bnd_mono (bnd_sub (bnd_add h0 h2) (bnd_add h1 g3))
  · rw [upd_if, if_neg c3]
    by_cases c2 : j = p + 2 * s
    · left; refine ⟨by omega, ?_⟩; rw [upd_if, if_pos c2]; exact bnd_mono (bnd_sub (bnd_sub h0 h2) (bnd_sub g1 h3))
    · rw [upd_if, if_neg c2]
      by_cases c1 : j = p + s
      · left; refine ⟨by omega, ?_⟩; rw [upd_if, if_pos c1]; exact bnd_mono (bnd_add (bnd_sub h0 h2) (bnd_sub g1 h3))
      · rw [upd_if, if_neg c1]
        by_cases c0 : j = p
        · left; refine ⟨by omega, ?_⟩; rw [upd_if, if_pos c0]; exact bnd_mono (bnd_add (bnd_add h0 h2) (bnd_add h1 g3))
        · right; rw [upd_if, if_neg c0]; exact ⟨⟨c0, c1, c2, c3⟩, rfl⟩
theorem stR_bd {L : (Nat → Int32) → Nat → Nat → Nat → Int32} {M N : Nat} (hL : lB L M N) (hMN : M ≤ N) {f : Nat → Int32} (hf : bd M f) : ∀ i, i ≤ 4 → ∀ j, j < 16 → bnd N (stR L f i j) ∧ (4 * i ≤ j → bnd M (stR L f i j))
  | 0, _, j, hj => ⟨bnd_mono (hf j hj) hMN, fun _ => hf j hj⟩
  | i + 1, h, j, hj => by
    have ih := stR_bd hL hMN hf i (by omega)
    show bnd N (L (stR L f i) (4 * i) 1 j) ∧ (_ → bnd M (L (stR L f i) (4 * i) 1 j))
    rcases hL (stR L f i) (4 * i) 1 j ((ih _ (by omega)).2 (by omega)) ((ih _ (by omega)).2 (by omega)) ((ih _ (by omega)).2 (by omega)) ((ih _ (by omega)).2 (by omega)) with ⟨q0, q⟩ | ⟨q1, q2⟩
    · exact ⟨q, fun c => absurd c (by omega)⟩
    · rw [q2]; exact ⟨(ih j hj).1, fun c => (ih j hj).2 (by omega)⟩
theorem stC_bd {L : (Nat → Int32) → Nat → Nat → Nat → Int32} {M N : Nat} (hL : lB L M N) (hMN : M ≤ N) {f : Nat → Int32} (hf : bd M f) : ∀ i, i ≤ 4 → ∀ j, j < 16 → bnd N (stC L f i j) ∧ (i ≤ j % 4 → bnd M (stC L f i j))
  | 0, _, j, hj => ⟨bnd_mono (hf j hj) hMN, fun _ => hf j hj⟩
  | i + 1, h, j, hj => by
    have ih := stC_bd hL hMN hf i (by omega)
    show bnd N (L (stC L f i) i 4 j) ∧ (_ → bnd M (L (stC L f i) i 4 j))
    rcases hL (stC L f i) i 4 j ((ih _ (by omega)).2 (by omega)) ((ih _ (by omega)).2 (by omega)) ((ih _ (by omega)).2 (by omega)) ((ih _ (by omega)).2 (by omega)) with ⟨q0, q⟩ | ⟨q1, q2⟩
    · exact ⟨q, fun c => absurd c (by omega)⟩
    · rw [q2]; exact ⟨(ih j hj).1, fun c => (ih j hj).2 (by omega)⟩
/-! the four lines, both ways -/
theorem ix4 (i : Nat) : (4 * nI i : Int32) = nI (4 * i) := pk_mul 4 i
theorem t_X8_forth_3 {K : (Nat → Int32) → (Nat → Int32) → Prop} {X : Int32 → (Nat → Int32) → Prop} {f : Nat → Int32} (h : ∀ v, X v (stR forthL f 4)) : ∃ k, wl_X8_forth_3 K X k 0 f := by
  refine loopS (fun n i g => wl_X8_forth_3 K X n (nI i) g) (stR forthL f) 4 (fun n => ?_) (fun n i hi ih => ?_)
  · rw [wl_X8_forth_3]; exact yes (by decide) (h _)
  · rw [wl_X8_forth_3, ix4]
    refine nay (nI_ge (a := i) (b := 4) hi (by decide)) (t_X8_forthLine (s := 1) (by omega) (fun x hx => ?_))
    rw [hx, nI_1]; exact ih
theorem t_X8_forth_27 {K : (Nat → Int32) → (Nat → Int32) → Prop} {X : Int32 → (Nat → Int32) → Prop} {f : Nat → Int32} (h : ∀ v, X v (stC forthL f 4)) : ∃ k, wl_X8_forth_27 K X k 0 f := by
  refine loopS (fun n i g => wl_X8_forth_27 K X n (nI i) g) (stC forthL f) 4 (fun n => ?_) (fun n i hi ih => ?_)
  · rw [wl_X8_forth_27]; exact yes (by decide) (h _)
  · rw [wl_X8_forth_27]
    refine nay (nI_ge (a := i) (b := 4) hi (by decide)) (t_X8_forthLine (s := 4) (by omega) (fun x hx => ?_))
    rw [hx, nI_1]; exact ih
theorem t_X10_goForth_54 {K : (Nat → Int32) → (Nat → Int32) → Prop} {X : Int32 → (Nat → Int32) → Prop} {f : Nat → Int32} (h : ∀ v, X v (stR forthL f 4)) : ∃ k, wl_X10_goForth_54 K X k 0 f := by
  refine loopS (fun n i g => wl_X10_goForth_54 K X n (nI i) g) (stR forthL f) 4 (fun n => ?_) (fun n i hi ih => ?_)
  · rw [wl_X10_goForth_54]; exact yes (by decide) (h _)
  · rw [wl_X10_goForth_54, ix4]
    refine nay (nI_ge (a := i) (b := 4) hi (by decide)) (t_X10_forthLine (s := 1) (by omega) (fun x hx => ?_))
    rw [hx, nI_1]; exact ih
theorem t_X10_goForth_78 {K : (Nat → Int32) → (Nat → Int32) → Prop} {X : Int32 → (Nat → Int32) → Prop} {f : Nat → Int32} (h : ∀ v, X v (stC forthL f 4)) : ∃ k, wl_X10_goForth_78 K X k 0 f := by
  refine loopS (fun n i g => wl_X10_goForth_78 K X n (nI i) g) (stC forthL f) 4 (fun n => ?_) (fun n i hi ih => ?_)
  · rw [wl_X10_goForth_78]; exact yes (by decide) (h _)
  · rw [wl_X10_goForth_78]
    refine nay (nI_ge (a := i) (b := 4) hi (by decide)) (t_X10_forthLine (s := 4) (by omega) (fun x hx => ?_))
    rw [hx, nI_1]; exact ih
theorem t_X8_back_56 {K : (Nat → Int32) → Prop} {X : Int32 → (Nat → Int32) → Prop} {f : Nat → Int32} (h : ∀ v, X v (stR backL f 4)) : ∃ k, wl_X8_back_56 K X k 0 f := by
  refine loopS (fun n i g => wl_X8_back_56 K X n (nI i) g) (stR backL f) 4 (fun n => ?_) (fun n i hi ih => ?_)
  · rw [wl_X8_back_56]; exact yes (by decide) (h _)
  · rw [wl_X8_back_56, ix4]
    refine nay (nI_ge (a := i) (b := 4) hi (by decide)) (t_X8_backLine (s := 1) (by omega) (fun x hx => ?_))
    rw [hx, nI_1]; exact ih
theorem t_X8_back_80 {K : (Nat → Int32) → Prop} {X : Int32 → (Nat → Int32) → Prop} {f : Nat → Int32} (h : ∀ v, X v (stC backL f 4)) : ∃ k, wl_X8_back_80 K X k 0 f := by
  refine loopS (fun n i g => wl_X8_back_80 K X n (nI i) g) (stC backL f) 4 (fun n => ?_) (fun n i hi ih => ?_)
  · rw [wl_X8_back_80]; exact yes (by decide) (h _)
  · rw [wl_X8_back_80]
    refine nay (nI_ge (a := i) (b := 4) hi (by decide)) (t_X8_backLine (s := 4) (by omega) (fun x hx => ?_))
    rw [hx, nI_1]; exact ih
theorem t_X10_comesBack_mo6_85 {K : (Nat → Int32) → (Nat → Int32) → Prop} {X : Int32 → (Nat → Int32) → Prop} {f : Nat → Int32} {M : Nat} (hM : 4 * M ≤ 2147483000) (hf : bd M f) (h : ∀ v, X v (stR backL f 4)) : ∃ k, wl_X10_comesBack_mo6_85 K X k 0 f := by
  refine loopS (fun n i g => wl_X10_comesBack_mo6_85 K X n (nI i) g) (stR backL f) 4 (fun n => ?_) (fun n i hi ih => ?_)
  · rw [wl_X10_comesBack_mo6_85]; exact yes (by decide) (h _)
  · rw [wl_X10_comesBack_mo6_85, ix4]
    have hb := stR_bd (backL_bnd (M := M) (by omega)) (by omega) hf i (by omega)
    refine nay (nI_ge (a := i) (b := 4) hi (by decide)) (t_X10_backLine (s := 1) (by omega) (bnd_mono (hb _ (by omega)).1) (bnd_mono (hb _ (by omega)).1) (fun x hx => ?_))
    rw [hx, nI_1]; exact ih
theorem t_X10_comesBack_mo6_109 {K : (Nat → Int32) → (Nat → Int32) → Prop} {X : Int32 → (Nat → Int32) → Prop} {f : Nat → Int32} {M : Nat} (hM : 4 * M ≤ 2147483000) (hf : bd M f) (h : ∀ v, X v (stC backL f 4)) : ∃ k, wl_X10_comesBack_mo6_109 K X k 0 f := by
  refine loopS (fun n i g => wl_X10_comesBack_mo6_109 K X n (nI i) g) (stC backL f) 4 (fun n => ?_) (fun n i hi ih => ?_)
  · rw [wl_X10_comesBack_mo6_109]; exact yes (by decide) (h _)
  · rw [wl_X10_comesBack_mo6_109]
    have hb := stC_bd (backL_bnd (M := M) (by omega)) (by omega) hf i (by omega)
    refine nay (nI_ge (a := i) (b := 4) hi (by decide)) (t_X10_backLine (s := 4) (by omega) (bnd_mono (hb _ (by omega)).1) (bnd_mono (hb _ (by omega)).1) (fun x hx => ?_))
    rw [hx, nI_1]; exact ih
theorem t_X10_comesBack_mo8_85 {K : (Nat → Int32) → (Nat → Int32) → Prop} {X : Int32 → (Nat → Int32) → Prop} {f : Nat → Int32} {M : Nat} (hM : 4 * M ≤ 2147483000) (hf : bd M f) (h : ∀ v, X v (stR backL f 4)) : ∃ k, wl_X10_comesBack_mo8_85 K X k 0 f := by
  refine loopS (fun n i g => wl_X10_comesBack_mo8_85 K X n (nI i) g) (stR backL f) 4 (fun n => ?_) (fun n i hi ih => ?_)
  · rw [wl_X10_comesBack_mo8_85]; exact yes (by decide) (h _)
  · rw [wl_X10_comesBack_mo8_85, ix4]
    have hb := stR_bd (backL_bnd (M := M) (by omega)) (by omega) hf i (by omega)
    refine nay (nI_ge (a := i) (b := 4) hi (by decide)) (t_X10_backLine (s := 1) (by omega) (bnd_mono (hb _ (by omega)).1) (bnd_mono (hb _ (by omega)).1) (fun x hx => ?_))
    rw [hx, nI_1]; exact ih
theorem t_X10_comesBack_mo8_109 {K : (Nat → Int32) → (Nat → Int32) → Prop} {X : Int32 → (Nat → Int32) → Prop} {f : Nat → Int32} {M : Nat} (hM : 4 * M ≤ 2147483000) (hf : bd M f) (h : ∀ v, X v (stC backL f 4)) : ∃ k, wl_X10_comesBack_mo8_109 K X k 0 f := by
  refine loopS (fun n i g => wl_X10_comesBack_mo8_109 K X n (nI i) g) (stC backL f) 4 (fun n => ?_) (fun n i hi ih => ?_)
  · rw [wl_X10_comesBack_mo8_109]; exact yes (by decide) (h _)
  · rw [wl_X10_comesBack_mo8_109]
    have hb := stC_bd (backL_bnd (M := M) (by omega)) (by omega) hf i (by omega)
    refine nay (nI_ge (a := i) (b := 4) hi (by decide)) (t_X10_backLine (s := 4) (by omega) (bnd_mono (hb _ (by omega)).1) (bnd_mono (hb _ (by omega)).1) (fun x hx => ?_))
    rw [hx, nI_1]; exact ih
