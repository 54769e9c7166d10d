/-! the class looks round a block -/
theorem t_X2_lookAbove_25 {x y th : Nat} {px : Nat → Int32} {K : (Nat → Int32) → Prop} {X : Int32 → (Nat → Int32) → Prop} {fl0 : Nat → Int32} (hxy : y < 32 ∧ x + th ≤ 32) (hth : th = 8 ∨ th = 4)
    (hX : ∀ v fl, (∀ k, k < 9 → fl (8 + k) = px (32 * y + (x + min k (th - 1)))) → (∀ j, j < 8 → fl j = fl0 j) → X v fl) :
    ∀ (d i n : Nat) (fl : Nat → Int32), i + d = 9 → d < n → (∀ k, k < i → fl (8 + k) = px (32 * y + (x + min k (th - 1)))) → (∀ j, j < 8 → fl j = fl0 j) → wl_X2_lookAbove_25 (nI x) (nI y) (nI th) px K X n (nI i) fl := by
  intro d
  induction d with
  | zero =>
    intro i n fl hi hn h1 h2
    obtain ⟨n, rfl⟩ : ∃ k, n = k + 1 := ⟨n - 1, by omega⟩
    rw [wl_X2_lookAbove_25]
    have hi : i = 9 := by omega
    subst hi
    exact ⟨fun _ => hX _ _ h1 h2, fun c => absurd (by decide) c⟩
  | succ d ih =>
    intro i n fl hi hn h1 h2
    obtain ⟨n, rfl⟩ : ∃ k, n = k + 1 := ⟨n - 1, by omega⟩
    rw [wl_X2_lookAbove_25]
    refine ⟨fun c => absurd c (nI_ge (a := i) (b := 9) (by omega) (by decide)), fun _ => ?_⟩
    unfold jn1 wp_X3_get
    have e8 : 8 + nI i = nI (8 + i) := nI_add 8 i
    have e7 : 7 + nI i = nI (7 + i) := nI_add 7 i
    have step : ∀ t : Int32, t = px (32 * y + (x + min i (th - 1))) → vp_in (8 + nI i) 17 ∧ ∀ x4_6 : Int32, x4_6 = nI i + 1 → wl_X2_lookAbove_25 (nI x) (nI y) (nI th) px K X n x4_6 (jup fl (8 + nI i) t) := by
      intro t ht
      rw [e8]
      refine ⟨nI_in', fun z hz => ?_⟩
      rw [hz, nI_1, jup_nI]
      refine ih (i + 1) n _ (by omega) (by omega) (fun k hk => ?_) (fun j hj => ?_)
      · rw [upd_if]
        by_cases hki : k = i
        · subst hki; rw [if_pos rfl, ht]
        · rw [if_neg (by omega)]; exact h1 k (by omega)
      · rw [upd_if, if_neg (by omega)]; exact h2 j hj
    rw [nI_le']
    refine ⟨fun c => ?_, fun c => ?_⟩
    · rw [e7]
      refine ⟨nI_in', step _ ?_⟩
      rw [jat_nI]
      obtain ⟨i', rfl⟩ : ∃ k, i = k + 1 := ⟨i - 1, by omega⟩
      have := h1 i' (by omega)
      have e : 7 + (i' + 1) = 8 + i' := by omega
      rw [e, this]
      congr 3
      omega
    · have e : (32 * nI y) + (nI x + nI i) = nI (32 * y + (x + i)) := by rw [nI_add, nI_32]
      rw [e]
      refine ⟨nI_in', step _ ?_⟩
      rw [jat_nI]
      congr 3
      omega
theorem t_X2_lookAbove {a x y : Nat} {px fl : Nat → Int32} {K : (Nat → Int32) → Prop} (ha : 1 ≤ a ∧ a ≤ 8) (hx : x + 4 ≤ 4 * a ∧ x % 4 = 0) (hy : y < 32)
    (h : ∀ fl', (∀ k, k < 9 → fl' (8 + k) = px (32 * y + (x + min k (if x + 4 < 4 * a then 7 else 3)))) → (∀ j, j < 8 → fl' j = fl j) → K fl') : wp_X2_lookAbove fl (nI a) px (nI x) (nI y) K := by
  unfold wp_X2_lookAbove jn1
  have e4 : nI x + 4 = nI (x + 4) := nI_add x 4
  have e4a : (4 * nI a : Int32) = nI (4 * a) := pk_mul 4 a
  rw [e4, e4a, nI_le']
  refine ⟨fun c => ⟨10, ?_⟩, fun c => ⟨10, ?_⟩⟩
  · refine t_X2_lookAbove_25 (th := 4) (fl0 := fl) (by omega) (Or.inr rfl) (fun _ fl' f1 f2 => h fl' (fun k hk => ?_) f2) 9 0 10 fl rfl (by decide) (fun k hk => absurd hk (by omega)) (fun _ _ => rfl)
    rw [if_neg (by omega)]; exact f1 k hk
  · refine t_X2_lookAbove_25 (th := 8) (fl0 := fl) (by omega) (Or.inl rfl) (fun _ fl' f1 f2 => h fl' (fun k hk => ?_) f2) 9 0 10 fl rfl (by decide) (fun k hk => absurd hk (by omega)) (fun _ _ => rfl)
    rw [if_pos (by omega)]; exact f1 k hk
theorem t_X2_lookLeft_2 {x y : Nat} {px : Nat → Int32} {K : (Nat → Int32) → Prop} {X : Int32 → (Nat → Int32) → Prop} {fl0 : Nat → Int32} (hxy : y + 4 ≤ 32 ∧ x < 32)
    (hX : ∀ v fl, (∀ k, k < 7 → fl (6 - k) = px (32 * (y + min k 3) + x)) → (∀ j, 7 ≤ j → fl j = fl0 j) → X v fl) :
    ∀ (d i n : Nat) (fl : Nat → Int32), i + d = 7 → d < n → (∀ k, k < i → fl (6 - k) = px (32 * (y + min k 3) + x)) → (∀ j, 7 ≤ j → fl j = fl0 j) → wl_X2_lookLeft_2 (nI x) (nI y) px K X n (nI i) fl := by
  intro d
  induction d with
  | zero =>
    intro i n fl hi hn h1 h2
    obtain ⟨n, rfl⟩ : ∃ k, n = k + 1 := ⟨n - 1, by omega⟩
    rw [wl_X2_lookLeft_2]
    have hi : i = 7 := by omega
    subst hi
    exact ⟨fun _ => hX _ _ h1 h2, fun c => absurd (by decide) c⟩
  | succ d ih =>
    intro i n fl hi hn h1 h2
    obtain ⟨n, rfl⟩ : ∃ k, n = k + 1 := ⟨n - 1, by omega⟩
    rw [wl_X2_lookLeft_2]
    refine ⟨fun c => absurd c (nI_ge (a := i) (b := 7) (by omega) (by decide)), fun _ => ?_⟩
    unfold jn1 wp_X3_get
    have e6 : 6 - nI i = nI (6 - i) := nI_sub' (a := 6) (by omega)
    have e7 : 7 - nI i = nI (7 - i) := nI_sub' (a := 7) (by omega)
    have e4 : (4 : Int32) = nI 4 := rfl
    have step : ∀ t : Int32, t = px (32 * (y + min i 3) + x) → vp_in (6 - nI i) 17 ∧ ∀ x4_6 : Int32, x4_6 = nI i + 1 → wl_X2_lookLeft_2 (nI x) (nI y) px K X n x4_6 (jup fl (6 - nI i) t) := by
      intro t ht
      rw [e6]
      refine ⟨nI_in', fun z hz => ?_⟩
      rw [hz, nI_1, jup_nI]
      refine ih (i + 1) n _ (by omega) (by omega) (fun k hk => ?_) (fun j hj => ?_)
      · rw [upd_if]
        by_cases hki : k = i
        · subst hki; rw [if_pos rfl, ht]
        · rw [if_neg (by omega)]; exact h1 k (by omega)
      · rw [upd_if, if_neg (by omega)]; exact h2 j hj
    rw [e4, nI_le']
    refine ⟨fun c => ?_, fun c => ?_⟩
    · rw [e7]
      refine ⟨nI_in', step _ ?_⟩
      rw [jat_nI]
      obtain ⟨i', rfl⟩ : ∃ k, i = k + 1 := ⟨i - 1, by omega⟩
      have := h1 i' (by omega)
      have e : 7 - (i' + 1) = 6 - i' := by omega
      rw [e, this]
      congr 3
      omega
    · have e : (32 * (nI y + nI i)) + nI x = nI (32 * (y + i) + x) := by rw [nI_add, nI_32]
      rw [e]
      refine ⟨nI_in', step _ ?_⟩
      rw [jat_nI]
      congr 3
      omega
theorem t_X2_lookLeft {x y : Nat} {px fl : Nat → Int32} {K : (Nat → Int32) → Prop} (hxy : y + 4 ≤ 32 ∧ x < 32)
    (h : ∀ fl', (∀ k, k < 7 → fl' (6 - k) = px (32 * (y + min k 3) + x)) → (∀ j, 7 ≤ j → fl' j = fl j) → K fl') : wp_X2_lookLeft fl px (nI x) (nI y) K :=
  ⟨8, t_X2_lookLeft_2 (fl0 := fl) hxy (fun _ fl' f1 f2 => h fl' f1 f2) 7 0 8 fl rfl (by decide) (fun k hk => absurd hk (by omega)) (fun _ _ => rfl)⟩
theorem t_X2_sum {fl : Nat → Int32} {w : Int} {K : Int32 → Prop} (hw : w = 1 ∨ w = -1) (h : K (((fl (7 + w).toNat + fl (7 + w * 2).toNat) + fl (7 + w * 3).toNat) + fl (7 + w * 4).toNat)) : wp_X2_sumOfSide fl (zI w) K := by
  unfold wp_X2_sumOfSide
  refine ⟨5, ?_⟩
  have e1 : (1 : Int32) = zI 1 := rfl
  have e4 : (4 : Int32) = zI 4 := rfl
  have e7 : (7 : Int32) = zI 7 := rfl
  have go : ∀ (n : Nat) (i : Int) (acc : Int32), 1 ≤ i ∧ i ≤ 4 → (∀ x2 : Int32, x2 = acc + fl (7 + w * i).toNat → wl_X2_sumOfSide_4 (zI w) fl K (fun (v2_5 : Int32) (v3_5 : Int32) => K v2_5) n x2 (zI (i + 1))) → wl_X2_sumOfSide_4 (zI w) fl K (fun (v2_5 : Int32) (v3_5 : Int32) => K v2_5) (n + 1) acc (zI i) := by
    intro n i acc hi hk
    rw [wl_X2_sumOfSide_4, e4, e7, e1, zI_lt, zI_mul, zI_add]
    have hb : -4 ≤ w * i ∧ w * i ≤ 4 := by rcases hw with rfl | rfl <;> omega
    refine ⟨fun c => absurd c (by omega), fun _ => ⟨zI_in, fun x2 h2 x3 h3 => ?_⟩⟩
    rw [zI_at] at h2
    rw [h3, zI_add]
    exact hk x2 h2
  rw [e1]
  refine go 4 1 0 (by omega) (fun x2 h2 => go 3 2 x2 (by omega) (fun x3 h3 => go 2 3 x3 (by omega) (fun x4 h4 => go 1 4 x4 (by omega) (fun x5 h5 => ?_))))
  rw [wl_X2_sumOfSide_4, e4, zI_lt]
  refine ⟨fun _ => ?_, fun c => absurd (by decide) c⟩
  rw [h5, h4, h3, h2, Int32.zero_add, Int.mul_one]
  exact h
theorem t_X9_hasNeeded {up lf : Prop} {fa ff : Int32} {mode : Nat} {K : Int32 → Prop} (hm : mode < 9) (hu : (up ∧ fa = 1) ∨ (¬ up ∧ fa = 0)) (hl : (lf ∧ ff = 1) ∨ (¬ lf ∧ ff = 0)) (h1 : mayB up lf mode → K 1) (h0 : ¬ mayB up lf mode → K 0) : wp_X9_hasNeeded (nI mode) fa ff K := by
  unfold wp_X9_hasNeeded
  have hU : jz fa ∧ ((up → fa = 1) ∧ (¬ up → fa = 0)) := by
    rcases hu with ⟨h, rfl⟩ | ⟨h, rfl⟩
    · exact ⟨jz1, fun _ => rfl, fun c => absurd h c⟩
    · exact ⟨jz0, fun c => absurd c h, fun _ => rfl⟩
  have hL : jz ff ∧ ((lf → ff = 1) ∧ (¬ lf → ff = 0)) := by
    rcases hl with ⟨h, rfl⟩ | ⟨h, rfl⟩
    · exact ⟨jz1, fun _ => rfl, fun c => absurd h c⟩
    · exact ⟨jz0, fun c => absurd c h, fun _ => rfl⟩
  have kU : (up → K 1) → (¬ up → K 0) → jz fa ∧ K fa := by
    intro a b
    by_cases h : up
    · rw [hU.2.1 h]; exact ⟨jz1, a h⟩
    · rw [hU.2.2 h]; exact ⟨jz0, b h⟩
  have kL : (lf → K 1) → (¬ lf → K 0) → jz ff ∧ K ff := by
    intro a b
    by_cases h : lf
    · rw [hL.2.1 h]; exact ⟨jz1, a h⟩
    · rw [hL.2.2 h]; exact ⟨jz0, b h⟩
  have kB : (up ∧ lf → K 1) → (¬ (up ∧ lf) → K 0) → ((fa = 0 → K 0) ∧ (¬ fa = 0 → ((ff = 0 → K 0) ∧ (¬ ff = 0 → K 1)))) := by
    intro a b
    by_cases h : up
    · rw [hU.2.1 h]
      refine ⟨fun c => absurd c (by decide), fun _ => ?_⟩
      by_cases h2 : lf
      · rw [hL.2.1 h2]; exact ⟨fun c => absurd c (by decide), fun _ => a ⟨h, h2⟩⟩
      · rw [hL.2.2 h2]; exact ⟨fun _ => b (fun e => h2 e.2), fun c => absurd rfl c⟩
    · rw [hU.2.2 h]; exact ⟨fun _ => b (fun e => h e.1), fun c => absurd rfl c⟩
  have hcs : mode = 0 ∨ mode = 1 ∨ mode = 2 ∨ mode = 3 ∨ mode = 4 ∨ mode = 5 ∨ mode = 6 ∨ mode = 7 ∨ mode = 8 := by omega
  rcases hcs with rfl | rfl | rfl | rfl | rfl | rfl | rfl | rfl | rfl
  · exact ⟨fun _ => kU h1 h0, fun c => absurd rfl c⟩
  · exact ⟨fun c => absurd c (by decide), fun _ => ⟨fun _ => kL h1 h0, fun c => absurd rfl c⟩⟩
  · exact ⟨fun c => absurd c (by decide), fun _ => ⟨fun c => absurd c (by decide), fun _ => ⟨fun _ => h1 trivial, fun c => absurd rfl c⟩⟩⟩
  · exact ⟨fun c => absurd c (by decide), fun _ => ⟨fun c => absurd c (by decide), fun _ => ⟨fun c => absurd c (by decide), fun _ => ⟨fun _ => kU h1 h0, fun c => absurd rfl c⟩⟩⟩⟩
  · exact ⟨fun c => absurd c (by decide), fun _ => ⟨fun c => absurd c (by decide), fun _ => ⟨fun c => absurd c (by decide), fun _ => ⟨fun c => absurd c (by decide), fun _ => ⟨fun _ => kB h1 h0, fun c => absurd rfl c⟩⟩⟩⟩⟩
  · exact ⟨fun c => absurd c (by decide), fun _ => ⟨fun c => absurd c (by decide), fun _ => ⟨fun c => absurd c (by decide), fun _ => ⟨fun c => absurd c (by decide), fun _ => ⟨fun c => absurd c (by decide), fun _ => ⟨fun _ => kB h1 h0, fun c => absurd rfl c⟩⟩⟩⟩⟩⟩
  · exact ⟨fun c => absurd c (by decide), fun _ => ⟨fun c => absurd c (by decide), fun _ => ⟨fun c => absurd c (by decide), fun _ => ⟨fun c => absurd c (by decide), fun _ => ⟨fun c => absurd c (by decide), fun _ => ⟨fun c => absurd c (by decide), fun _ => ⟨fun _ => kB h1 h0, fun c => absurd rfl c⟩⟩⟩⟩⟩⟩⟩
  · exact ⟨fun c => absurd c (by decide), fun _ => ⟨fun c => absurd c (by decide), fun _ => ⟨fun c => absurd c (by decide), fun _ => ⟨fun c => absurd c (by decide), fun _ => ⟨fun c => absurd c (by decide), fun _ => ⟨fun c => absurd c (by decide), fun _ => ⟨fun c => absurd c (by decide), fun _ => ⟨fun _ => kU h1 h0, fun c => absurd rfl c⟩⟩⟩⟩⟩⟩⟩⟩
  · exact ⟨fun c => absurd c (by decide), fun _ => ⟨fun c => absurd c (by decide), fun _ => ⟨fun c => absurd c (by decide), fun _ => ⟨fun c => absurd c (by decide), fun _ => ⟨fun c => absurd c (by decide), fun _ => ⟨fun c => absurd c (by decide), fun _ => ⟨fun c => absurd c (by decide), fun _ => ⟨fun c => absurd c (by decide), fun _ => ⟨fun _ => kL h1 h0, fun c => absurd rfl c⟩⟩⟩⟩⟩⟩⟩⟩⟩
/-- the model's 'may' -/
theorem t_X10_may {a b mode : Nat} {K : Int32 → Prop} (ha : 1 ≤ a ∧ a ≤ 8) (hb : b < 64) (hm : mode < 9) (h1 : mayB (0 < b / a) (0 < b % a) mode → K 1) (h0 : ¬ mayB (0 < b / a) (0 < b % a) mode → K 0) : wp_X10_may (nI a) (nI b) (nI mode) K := by
  unfold wp_X10_may jn1 jn0
  have A : ∀ G : Int32 → Prop, ((0 < b / a → G 1) ∧ (¬ 0 < b / a → G 0)) → wp_X10_hasAbove (nI a) (nI b) G := fun G g => t_X10_hasAbove ha hb (by
      split
      · exact g.1 (by assumption)
      · exact g.2 (by assumption))
  have B : ∀ G : Int32 → Prop, ((0 < b % a → G 1) ∧ (¬ 0 < b % a → G 0)) → wp_X10_hasLeft (nI a) (nI b) G := fun G g => t_X10_hasLeft ha hb (by
      split
      · exact g.1 (by assumption)
      · exact g.2 (by assumption))
  have t1 : ∀ {P Q : Prop}, P → ((0 : Int32) = 0 → P) ∧ (¬ (0 : Int32) = 0 → Q) := fun p => ⟨fun _ => p, fun c => absurd rfl c⟩
  have t2 : ∀ {P Q : Prop}, Q → ((1 : Int32) = 0 → P) ∧ (¬ (1 : Int32) = 0 → Q) := fun q => ⟨fun c => absurd c (by decide), fun _ => q⟩
  have hcs : mode = 0 ∨ mode = 1 ∨ mode = 2 ∨ mode = 3 ∨ mode = 4 ∨ mode = 5 ∨ mode = 6 ∨ mode = 7 ∨ mode = 8 := by omega
  have yes : ∀ {c A B : Prop}, c → A → (c → A) ∧ (¬ c → B) := fun hc ha => ⟨fun _ => ha, fun c => absurd hc c⟩
  have no : ∀ {c A B : Prop}, ¬ c → B → (c → A) ∧ (¬ c → B) := fun hc hb => ⟨fun c => absurd c hc, fun _ => hb⟩
  rcases hcs with rfl | rfl | rfl | rfl | rfl | rfl | rfl | rfl | rfl
  · exact yes (by decide) (no (by decide) (no (by decide) (yes (by decide) (t2 (A _ ⟨fun u => t2 (t1 (t1 (h1 u))), fun u => t1 (h0 u)⟩)))))
  · exact no (by decide) (no (by decide) (no (by decide) (yes (by decide) (yes (by decide) (t1 (t1 (t2 (B _ ⟨fun u => t2 (h1 u), fun u => t1 (h0 u)⟩))))))))
  · exact no (by decide) (no (by decide) (no (by decide) (no (by decide) (no (by decide) (yes (by decide) (t1 (t1 (t1 (t1 (h1 trivial))))))))))
  · exact no (by decide) (yes (by decide) (no (by decide) (no (by decide) (yes (by decide) (t2 (A _ ⟨fun u => t2 (t1 (t1 (h1 u))), fun u => t1 (h0 u)⟩))))))
  · exact no (by decide) (no (by decide) (no (by decide) (no (by decide) (no (by decide) (no (by decide) (no (by decide) (t1 (t2 (A _ ⟨fun u => t2 (t1 (t2 (B _ ⟨fun v => t2 (h1 ⟨u, v⟩), fun v => t1 (h0 (fun e => v e.2))⟩))), fun u => t1 (h0 (fun e => u e.1))⟩)))))))))
  · exact no (by decide) (no (by decide) (no (by decide) (no (by decide) (no (by decide) (no (by decide) (no (by decide) (t1 (t2 (A _ ⟨fun u => t2 (t1 (t2 (B _ ⟨fun v => t2 (h1 ⟨u, v⟩), fun v => t1 (h0 (fun e => v e.2))⟩))), fun u => t1 (h0 (fun e => u e.1))⟩)))))))))
  · exact no (by decide) (no (by decide) (no (by decide) (no (by decide) (no (by decide) (no (by decide) (no (by decide) (t1 (t2 (A _ ⟨fun u => t2 (t1 (t2 (B _ ⟨fun v => t2 (h1 ⟨u, v⟩), fun v => t1 (h0 (fun e => v e.2))⟩))), fun u => t1 (h0 (fun e => u e.1))⟩)))))))))
  · exact no (by decide) (no (by decide) (yes (by decide) (no (by decide) (no (by decide) (no (by decide) (yes (by decide) (t2 (A _ ⟨fun u => t2 (t1 (t1 (h1 u))), fun u => t1 (h0 u)⟩))))))))
  · exact no (by decide) (no (by decide) (no (by decide) (no (by decide) (yes (by decide) (no (by decide) (yes (by decide) (t1 (t1 (t2 (B _ ⟨fun u => t2 (h1 u), fun u => t1 (h0 u)⟩))))))))))
