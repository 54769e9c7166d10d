/-! the calls that need no long proof -/
theorem nI_m1 {a : Nat} (h : 1 ≤ a := by omega) : nI a - 1 = nI (a - 1) := nI_sub' (b := 1) h
theorem nI_4m1 {a : Nat} (h : 1 ≤ a := by omega) : (4 * nI a) - 1 = nI (4 * a - 1) := by
  show nI 4 * nI a - nI 1 = _
  rw [pk_mul, nI_sub' (by omega)]
theorem nI_32 (x y : Nat) : (32 * nI y) + nI x = nI (32 * y + x) := by
  show nI 32 * nI y + nI x = _
  rw [pk_mul, nI_add]
/-- a byte of four, from the highest -/
def by4 (v : Int32) (k : Nat) : Int32 := (v >>> (nI (24 - 8 * k) &&& 31)) &&& 255
theorem by4_u (v : Int32) {k : Nat} (hk : k < 4) : (jushr v (nI (24 - 8 * k))) &&& 255 = by4 v k := by
  refine b_ext (fun i hi => ?_)
  show bt ((v.toUInt32 >>> ((nI (24 - 8 * k)).toUInt32 &&& Int32.toUInt32 31)).toInt32 &&& 255) i = bt ((v >>> (nI (24 - 8 * k) &&& 31)) &&& 255) i
  rw [b_and, b_and, b_255, b_ushr _ (by omega), b_sshr _ (by omega) _ hi]
  by_cases h : i < 8
  · rw [if_pos (by omega)]
  · simp [h]
theorem and255 (x : Int32) : pOk (x &&& 255) := ⟨x.toBitVec.toNat % 256, by omega, pk_and x 8 (by decide)⟩
theorem by4_ok (v : Int32) (k : Nat) : pOk (by4 v k) := and255 _
theorem nI_24 {k : Nat} (hk : k < 4) : (24 : Int32) - (8 * nI k) = nI (24 - 8 * k) := by
  show nI 24 - nI 8 * nI k = _
  rw [pk_mul, nI_sub' (by omega)]
/-- four numbers laid from a place on -/
def lay4 (f : Nat → Int32) (b : Nat) (i : Nat) (g : Nat → Int32) : Nat → Int32 := fun j => if b ≤ j ∧ j < b + i then g (j - b) else f j
theorem lay4_s (f : Nat → Int32) (b i : Nat) (g : Nat → Int32) : upd (lay4 f b i g) (b + i) (g i) = lay4 f b (i + 1) g := by
  funext j
  unfold lay4
  rw [upd_if]
  by_cases h : j = b + i
  · subst h
    rw [if_pos rfl, if_pos (by omega)]
    congr 1; omega
  · rw [if_neg h]
    by_cases h2 : b ≤ j ∧ j < b + i
    · rw [if_pos h2, if_pos (by omega)]
    · rw [if_neg h2, if_neg (by omega)]
theorem lay4_0 (f : Nat → Int32) (b : Nat) (g : Nat → Int32) : lay4 f b 0 g = f := by
  funext j; unfold lay4; rw [if_neg (by omega)]
theorem t_X9_put_47 {y b : Nat} {v3 : Int32} {K : (Nat → Int32) → Prop} {X : Int32 → (Nat → Int32) → Prop} {px : Nat → Int32} (hy : y < 32) (hb : b < 8) (hX : ∀ v, X v (lay4 px (32 * y + 4 * b) 4 (by4 v3))) :
    ∀ (d i n : Nat), i + d = 4 → d < n → wl_X9_put_47 (nI b) (nI y) v3 K X n (nI i) (lay4 px (32 * y + 4 * b) i (by4 v3)) := by
  intro d
  induction d with
  | zero =>
    intro i n hi hn
    obtain ⟨n, rfl⟩ : ∃ k, n = k + 1 := ⟨n - 1, by omega⟩
    rw [wl_X9_put_47]
    have hi : i = 4 := by omega
    subst hi
    exact ⟨fun _ => hX _, fun c => absurd (by decide) c⟩
  | succ d ih =>
    intro i n hi hn
    obtain ⟨n, rfl⟩ : ∃ k, n = k + 1 := ⟨n - 1, by omega⟩
    rw [wl_X9_put_47]
    refine ⟨fun c => absurd c (nI_ge (a := i) (b := 4) (by omega) (by decide)), fun _ => ?_⟩
    unfold wp_X9_byteOf wp_X3_set
    rw [nI_24 (by omega), by4_u _ (by omega)]
    have e1 : (32 * nI y) + ((4 * nI b) + nI i) = nI (32 * y + 4 * b + i) := by
      show nI 32 * nI y + (nI 4 * nI b + nI i) = _
      rw [pk_mul, pk_mul, nI_add, nI_add]; congr 1; omega
    rw [e1]
    refine ⟨nI_in', fun x hx => ?_⟩
    rw [hx, nI_1, jup_nI, lay4_s]
    exact ih (i + 1) n (by omega) (by omega)
theorem t_X10_put_47 {y b : Nat} {v3 : Int32} {K : Int32 → (Nat → Int32) → Prop} {X : Int32 → (Nat → Int32) → Prop} {px : Nat → Int32} (hy : y < 32) (hb : b < 8) (hX : ∀ v, X v (lay4 px (32 * y + 4 * b) 4 (by4 v3))) :
    ∀ (d i n : Nat), i + d = 4 → d < n → wl_X10_put_47 (nI b) (nI y) v3 K X n (nI i) (lay4 px (32 * y + 4 * b) i (by4 v3)) := by
  intro d
  induction d with
  | zero =>
    intro i n hi hn
    obtain ⟨n, rfl⟩ : ∃ k, n = k + 1 := ⟨n - 1, by omega⟩
    rw [wl_X10_put_47]
    have hi : i = 4 := by omega
    subst hi
    exact ⟨fun _ => hX _, fun c => absurd (by decide) c⟩
  | succ d ih =>
    intro i n hi hn
    obtain ⟨n, rfl⟩ : ∃ k, n = k + 1 := ⟨n - 1, by omega⟩
    rw [wl_X10_put_47]
    refine ⟨fun c => absurd c (nI_ge (a := i) (b := 4) (by omega) (by decide)), fun _ => ?_⟩
    rw [nI_24 (by omega)]
    have e1 : ((32 * nI y) + (4 * nI b)) + nI i = nI (32 * y + 4 * b + i) := by
      show nI 32 * nI y + nI 4 * nI b + nI i = _
      rw [pk_mul, pk_mul, nI_add, nI_add]
    rw [e1]
    refine ⟨nI_in', fun x hx => ?_⟩
    rw [hx, nI_1, jup_nI]
    have e2 := lay4_s px (32 * y + 4 * b) i (by4 v3)
    unfold by4 at e2 ⊢
    rw [e2]
    exact ih (i + 1) n (by omega) (by omega)
theorem t_fails1 {t : Int32} {K : Int32 → Int32 → Prop} (h : K 1 1) : wp_X10_fails t 1 1 K := t_X10_fails jz1 (fun _ => h) (fun c => absurd c (by decide))
theorem t_fails0 {t : Int32} {K : Int32 → Int32 → Prop} (h : K 0 0) : wp_X10_fails t 0 1 K := t_X10_fails jz0 (fun c => absurd rfl c) (fun _ => h)
theorem s_put {pa pd : Int32} {px : Nat → Int32} {sc : Int32} {sb : Nat → Int32} {rp la ld lq lz : Int32} {lm lv : Nat → Int32} {ma md mq mz msz mpl mth : Int32} {mpic mmod mcoe mby : Nat → Int32} {v1 v2 v3 : Int32}
    {C : Int32 → (Nat → Int32) → Int32 → (Nat → Int32) → Prop} {Vw : Prop → Prop} (hV : ∀ P : Prop, P → Vw P) (hR : Rel pa pd px sc sb rp la ld lq lz lm lv ma md mq mz msz mpl mpic mmod mcoe mby)
    (hC : ∀ r px' mth' mpic', mth' = r → Rel pa pd px' sc sb rp la ld lq lz lm lv ma md mq mz msz mpl mpic' mmod mcoe mby → C r px' mth' mpic') :
    wp_L_put pa pd px v1 v2 v3 (fun r px' => Vw (wp_X10_put ma md mth mpic v1 v2 v3 (fun mth' mpic' => C r px' mth' mpic'))) := by
  obtain ⟨a, d, ⟨hs, rfl, rfl, hla, hld, rfl, rfl⟩, h2, h3, h4, h5, h6⟩ := id hR
  unfold wp_L_put wp_X9_put wp_X10_put
  rw [nI_m1, nI_4m1]
  by_cases hv : (0 ≤ v1 ∧ v1 ≤ nI (a - 1)) ∧ (0 ≤ v2 ∧ v2 ≤ nI (4 * d - 1))
  · obtain ⟨hv1, hv2⟩ := hv
    obtain ⟨b, hb, rfl⟩ := in_0 (by omega) hv1
    obtain ⟨y, hy, rfl⟩ := in_0 (by omega) hv2
    refine t_X9_isWithin (fun _ => ?_) (fun c => absurd hv1 c)
    unfold jn0
    refine ⟨fun c => absurd c (by decide), fun _ => t_X9_isWithin (fun _ => ⟨fun c => absurd c (by decide), fun _ => ⟨5, ?_⟩⟩) (fun c => absurd hv2 c)⟩
    have key := t_X9_put_47 (y := y) (b := b) (v3 := v3) (px := px) (K := fun px' => Vw (wp_X10_within (nI b) 0 (nI (a - 1)) (fun (r_1 : Int32) => jn1 (fun (t0_2 : Int32) => wp_X10_fails mth t0_2 1 (fun (r_3 : Int32) (mth_3 : Int32) => ((r_3 = 0 → ∃ k : Nat, wl_X10_put_47 (nI b) (nI y) v3 (fun mth' mpic' => C 0 px' mth' mpic') (fun (v4_9 : Int32) (mpic_9 : (Nat → Int32)) => C 0 px' mth_3 mpic_9) k 0 mpic) ∧ (¬ r_3 = 0 → C 0 px' mth_3 mpic)))) (fun J_2 => jn0 (J_2 1) (fun J_10 => ((r_1 = 0 → J_10) ∧ (¬ r_1 = 0 → wp_X10_within (nI y) 0 (nI (4 * d - 1)) (fun (r_12 : Int32) => ((r_12 = 0 → J_10) ∧ (¬ r_12 = 0 → J_2 0)))))))))) (X := fun _ px' => Vw (wp_X10_within (nI b) 0 (nI (a - 1)) (fun (r_1 : Int32) => jn1 (fun (t0_2 : Int32) => wp_X10_fails mth t0_2 1 (fun (r_3 : Int32) (mth_3 : Int32) => ((r_3 = 0 → ∃ k : Nat, wl_X10_put_47 (nI b) (nI y) v3 (fun mth' mpic' => C 0 px' mth' mpic') (fun (v4_9 : Int32) (mpic_9 : (Nat → Int32)) => C 0 px' mth_3 mpic_9) k 0 mpic) ∧ (¬ r_3 = 0 → C 0 px' mth_3 mpic)))) (fun J_2 => jn0 (J_2 1) (fun J_10 => ((r_1 = 0 → J_10) ∧ (¬ r_1 = 0 → wp_X10_within (nI y) 0 (nI (4 * d - 1)) (fun (r_12 : Int32) => ((r_12 = 0 → J_10) ∧ (¬ r_12 = 0 → J_2 0)))))))))) (by omega) (by omega) (fun _ => hV _ ?_) 4 0 5 rfl (by decide)
    · rw [lay4_0] at key
      exact key
    · refine t_X10_within (fun _ => ?_) (fun c => absurd hv1 c)
      unfold jn1 jn0
      refine ⟨fun c => absurd c (by decide), fun _ => t_X10_within (fun _ => ⟨fun c => absurd c (by decide), fun _ => ?_⟩) (fun c => absurd hv2 c)⟩
      refine t_fails0 ⟨fun _ => ⟨5, ?_⟩, fun c => absurd rfl c⟩
      have key2 := t_X10_put_47 (y := y) (b := b) (v3 := v3) (px := mpic) (K := fun mth' mpic' => C 0 (lay4 px (32 * y + 4 * b) 4 (by4 v3)) mth' mpic') (X := fun _ mpic' => C 0 (lay4 px (32 * y + 4 * b) 4 (by4 v3)) 0 mpic') (by omega) (by omega) (fun _ => ?_) 4 0 5 rfl (by decide)
      · rw [lay4_0] at key2
        exact key2
      · refine hC 0 _ 0 _ rfl ⟨a, d, ⟨hs, rfl, rfl, hla, hld, rfl, rfl⟩, fun x z hx hz => ?_, h3, h4, h5, h6⟩
        obtain ⟨e1, e2⟩ := h2 x z hx hz
        unfold lay4
        split
        · exact ⟨rfl, by4_ok _ _⟩
        · exact ⟨e1, e2⟩
  · have hm : wp_X10_within v1 0 (nI (a - 1)) (fun (r_1 : Int32) => jn1 (fun (t0_2 : Int32) => wp_X10_fails mth t0_2 1 (fun (r_3 : Int32) (mth_3 : Int32) => ((r_3 = 0 → ∃ k : Nat, wl_X10_put_47 v1 v2 v3 (fun mth' mpic' => C 1 px mth' mpic') (fun (v4_9 : Int32) (mpic_9 : (Nat → Int32)) => C 1 px mth_3 mpic_9) k 0 mpic) ∧ (¬ r_3 = 0 → C 1 px mth_3 mpic)))) (fun J_2 => jn0 (J_2 1) (fun J_10 => ((r_1 = 0 → J_10) ∧ (¬ r_1 = 0 → wp_X10_within v2 0 (nI (4 * d - 1)) (fun (r_12 : Int32) => ((r_12 = 0 → J_10) ∧ (¬ r_12 = 0 → J_2 0)))))))) := by
      have hf : wp_X10_fails mth 1 1 (fun (r_3 : Int32) (mth_3 : Int32) => ((r_3 = 0 → ∃ k : Nat, wl_X10_put_47 v1 v2 v3 (fun mth' mpic' => C 1 px mth' mpic') (fun (v4_9 : Int32) (mpic_9 : (Nat → Int32)) => C 1 px mth_3 mpic_9) k 0 mpic) ∧ (¬ r_3 = 0 → C 1 px mth_3 mpic))) := t_fails1 ⟨fun c => absurd c (by decide), fun _ => hC 1 _ 1 _ rfl hR⟩
      refine t_X10_within (fun c1 => ?_) (fun c1 => ?_)
      · unfold jn1 jn0
        exact ⟨fun c => absurd c (by decide), fun _ => t_X10_within (fun c2 => absurd ⟨c1, c2⟩ hv) (fun c2 => ⟨fun _ => hf, fun c => absurd rfl c⟩)⟩
      · unfold jn1 jn0
        exact ⟨fun _ => hf, fun c => absurd rfl c⟩
    refine t_X9_isWithin (fun c1 => ?_) (fun c1 => ?_)
    · unfold jn0
      exact ⟨fun c => absurd c (by decide), fun _ => t_X9_isWithin (fun c2 => absurd ⟨c1, c2⟩ hv) (fun c2 => ⟨fun _ => hV _ hm, fun c => absurd rfl c⟩)⟩
    · unfold jn0
      exact ⟨fun _ => hV _ hm, fun c => absurd rfl c⟩
theorem s_pixel {pa pd : Int32} {px : Nat → Int32} {sc : Int32} {sb : Nat → Int32} {rp la ld lq lz : Int32} {lm lv : Nat → Int32} {ma md mq mz msz mpl mth : Int32} {mpic mmod mcoe mby : Nat → Int32} {v1 v2 : Int32}
    {C : Int32 → Int32 → Int32 → Prop} {Vw : Prop → Prop} (hV : ∀ P : Prop, P → Vw P) (hR : Rel pa pd px sc sb rp la ld lq lz lm lv ma md mq mz msz mpl mpic mmod mcoe mby)
    (hC : ∀ r r' mth', r = r' → C r r' mth') : wp_X9_pixel pa pd px v1 v2 (fun r => Vw (wp_X10_pixel ma md mth mpic v1 v2 (fun r' mth' => C r r' mth'))) := by
  obtain ⟨a, d, ⟨hs, rfl, rfl, hla, hld, rfl, rfl⟩, h2, -⟩ := hR
  unfold wp_X9_pixel wp_X10_pixel wp_X3_get
  rw [nI_4m1, nI_4m1]
  refine t_X9_isWithin (fun c1 => ⟨fun c => absurd c (by decide), fun _ => t_X9_isWithin (fun c2 => ⟨fun c => absurd c (by decide), fun _ => ?_⟩) (fun c2 => ⟨fun _ => hV _ ?_, fun c => absurd rfl c⟩)⟩) (fun c1 => ⟨fun _ => hV _ ?_, fun c => absurd rfl c⟩)
  · obtain ⟨x, hx, rfl⟩ := in_0 (by omega) c1
    obtain ⟨y, hy, rfl⟩ := in_0 (by omega) c2
    rw [nI_32]
    refine ⟨nI_in', hV _ (t_X10_within (fun _ => ⟨fun c => absurd c (by decide), fun _ => t_X10_within (fun _ => ⟨fun c => absurd c (by decide), fun _ => ⟨nI_in', hC _ _ _ ?_⟩⟩) (fun c => absurd c2 c)⟩) (fun c => absurd c1 c))⟩
    rw [jat_nI, jat_nI]
    exact (h2 x y (by omega) (by omega)).1
  · exact t_X10_within (fun _ => ⟨fun c => absurd c (by decide), fun _ => t_X10_within (fun c => absurd c c2) (fun _ => ⟨fun _ => hC _ _ _ rfl, fun c => absurd rfl c⟩)⟩) (fun c => absurd c1 c)
  · exact t_X10_within (fun c => absurd c c1) (fun _ => ⟨fun _ => hC _ _ _ rfl, fun c => absurd rfl c⟩)
