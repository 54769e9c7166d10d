/-! blocks written -/
def lkly (a : Nat) (mo : Nat → Nat) (b : Nat) : Nat := if 0 < b / a ∧ 0 < b % a then min (mo (b - a)) (mo (b - 1)) else 2
def wMo (md lk : Nat) : List Nat := if md = lk then wB 1 1 else wB 0 1 ++ wB (if md ≤ lk then md else md - 1) 3
def cnt (l : Nat → Int32) : Nat → Nat
  | 0 => 0
  | i + 1 => cnt l i + (if l i = 0 then 0 else 1)
def codeN (x : Int32) : Nat := if x.toInt ≤ 0 then 2 * x.toInt.natAbs else 2 * x.toInt.natAbs - 1
def rS (l : Nat → Int32) : Nat → Nat × List Nat
  | 0 => (0, [])
  | i + 1 => if l i = 0 then ((rS l i).1 + 1, (rS l i).2) else (0, (rS l i).2 ++ wU (rS l i).1 ++ wU (codeN (l i)))
def wBl (a : Nat) (mo : Nat → Nat) (l : Nat → Int32) (b : Nat) : List Nat := wMo (mo b) (lkly a mo b) ++ wU (cnt l 16) ++ (rS l 16).2
theorem cnt_le (l : Nat → Int32) : ∀ i, cnt l i ≤ i
  | 0 => Nat.le_refl _
  | i + 1 => by
    have := cnt_le l i
    show cnt l i + (if l i = 0 then 0 else 1) ≤ i + 1
    split <;> omega
theorem code_le {x : Int32} (h : bnd 4095 x) : codeN x ≤ 8190 := by
  unfold bnd at h
  unfold codeN
  split <;> omega
theorem rS_le {l : Nat → Int32} : ∀ i, (rS l i).1 ≤ i
  | 0 => Nat.le_refl _
  | i + 1 => by
    have := rS_le (l := l) i
    rw [rS]
    split
    · show (rS l i).1 + 1 ≤ i + 1; omega
    · exact Nat.zero_le _
theorem rS_len {l : Nat → Int32} (h : ∀ i, i < 16 → bnd 4095 (l i)) : ∀ i, i ≤ 16 → (rS l i).2.length ≤ 54 * i
  | 0, _ => Nat.le_refl _
  | i + 1, hi => by
    have h1 := rS_len h i (by omega)
    have h2 := rS_le (l := l) i
    rw [rS]
    split
    · show (rS l i).2.length ≤ _; omega
    · show ((rS l i).2 ++ wU (rS l i).1 ++ wU (codeN (l i))).length ≤ _
      have h3 := wU_len (V := (rS l i).1) (by omega)
      have h4 := wU_len (code_le (h i (by omega)))
      rw [List.length_append, List.length_append]; omega
theorem wMo_len (md lk : Nat) : (wMo md lk).length ≤ 4 := by
  unfold wMo
  split
  · rw [wB_len]; omega
  · rw [List.length_append, wB_len, wB_len]; omega
theorem wBl_len {a : Nat} {mo : Nat → Nat} {l : Nat → Int32} {b : Nat} (h : ∀ i, i < 16 → bnd 4095 (l i)) : (wBl a mo l b).length ≤ 895 := by
  have h1 := wMo_len (mo b) (lkly a mo b)
  have h2 := wU_len (V := cnt l 16) (by have := cnt_le l 16; omega)
  have h3 := rS_len h 16 (by omega)
  unfold wBl
  rw [List.length_append, List.length_append]; omega
theorem lkly_lt {a b : Nat} {mo : Nat → Nat} (h : ∀ c, c < b → mo c < 9) (hb : 0 < b / a → 0 < a) : lkly a mo b < 9 := by
  unfold lkly
  split
  · next c =>
    have h0 : 0 < b := by
      rcases Nat.eq_zero_or_pos b with e | e
      · subst e; simp at c
      · exact e
    have := h (b - 1) (by omega)
    omega
  · omega
theorem t_X4_hasAbove {a b : Nat} {K : Int32 → Prop} (ha : 1 ≤ a ∧ a ≤ 8) (hb : b < 64) (h : K (if 0 < b / a then 1 else 0)) : wp_X4_hasAbove (nI a) (nI b) K := t_X10_hasAbove (K := K) ha hb h
theorem t_X4_hasLeft {a b : Nat} {K : Int32 → Prop} (ha : 1 ≤ a ∧ a ≤ 8) (hb : b < 64) (h : K (if 0 < b % a then 1 else 0)) : wp_X4_hasLeft (nI a) (nI b) K := t_X10_hasLeft (K := K) ha hb h
theorem t_X4_likelyMode {a b : Nat} {lm : Nat → Int32} {mo : Nat → Nat} {K : Int32 → Prop} (ha : 1 ≤ a ∧ a ≤ 8) (hb : b < 64) (hlm : ∀ c, c < b → lm c = nI (mo c) ∧ mo c < 9) (h : K (nI (lkly a mo b))) : wp_X4_likelyMode (nI a) lm (nI b) K := by
  unfold wp_X4_likelyMode
  unfold lkly at h
  refine t_X4_hasAbove ha hb ?_
  by_cases hu : 0 < b / a
  · rw [if_pos hu]
    refine nay (by decide) (t_X4_hasLeft ha hb ?_)
    by_cases hl : 0 < b % a
    · rw [if_pos hl]
      rw [if_pos ⟨hu, hl⟩] at h
      have hab : a ≤ b := (blk_up ha.1).mpr hu
      rw [nI_sub' hab, nI_m1]
      refine nay (by decide) ⟨nI_in', nI_in', ?_⟩
      obtain ⟨p1, p2⟩ := hlm (b - a) (by omega)
      obtain ⟨q1, q2⟩ := hlm (b - 1) (by omega)
      rw [jat_nI, jat_nI, p1, q1]
      show K (if nI (mo (b - 1)) < nI (mo (b - a)) then nI (mo (b - 1)) else nI (mo (b - a)))
      rw [Nat.min_def] at h
      split at h
      · next c => rw [if_neg (by rw [nI_lt']; omega)]; exact h
      · next c => rw [if_pos (by rw [nI_lt']; omega)]; exact h
    · rw [if_neg hl]
      rw [if_neg (fun c => hl c.2)] at h
      exact yes rfl h
  · rw [if_neg hu]
    rw [if_neg (fun c => hu c.1)] at h
    exact yes rfl h
theorem t_X10_likely_mo5 {a b : Nat} {lm : Nat → Int32} {mo : Nat → Nat} {K : Int32 → Prop} (ha : 1 ≤ a ∧ a ≤ 8) (hb : b < 64) (hlm : ∀ c, c < b → lm c = nI (mo c) ∧ mo c < 9) (h : K (nI (lkly a mo b))) : wp_X10_likely_mo5 (nI a) lm (nI b) K := by
  unfold wp_X10_likely_mo5
  unfold lkly at h
  refine t_X10_hasAbove ha hb ?_
  by_cases hu : 0 < b / a
  · rw [if_pos hu]
    refine nay (by decide) (t_X10_hasLeft ha hb ?_)
    by_cases hl : 0 < b % a
    · rw [if_pos hl]
      rw [if_pos ⟨hu, hl⟩] at h
      have hab : a ≤ b := (blk_up ha.1).mpr hu
      rw [nI_sub' hab, nI_m1]
      refine nay (by decide) ⟨nI_in', fun x3 e3 => ⟨nI_in', fun x4 e4 => ?_⟩⟩
      obtain ⟨p1, p2⟩ := hlm (b - a) (by omega)
      obtain ⟨q1, q2⟩ := hlm (b - 1) (by omega)
      rw [jat_nI, p1] at e3
      rw [jat_nI, q1] at e4
      subst e3 e4
      rw [nI_le']
      refine ⟨fun c => ?_, fun c => ?_⟩
      · have : min (mo (b - a)) (mo (b - 1)) = mo (b - 1) := by omega
        rw [this] at h; exact h
      · have : min (mo (b - a)) (mo (b - 1)) = mo (b - a) := by omega
        rw [this] at h; exact h
    · rw [if_neg hl]
      rw [if_neg (fun c => hl c.2)] at h
      exact yes rfl h
  · rw [if_neg hu]
    rw [if_neg (fun c => hu c.1)] at h
    exact yes rfl h
theorem t_X10_likely_mo7 {a b : Nat} {lm : Nat → Int32} {mo : Nat → Nat} {K : Int32 → Prop} (ha : 1 ≤ a ∧ a ≤ 8) (hb : b < 64) (hlm : ∀ c, c < b → lm c = nI (mo c) ∧ mo c < 9) (h : K (nI (lkly a mo b))) : wp_X10_likely_mo7 (nI a) lm (nI b) K := t_X10_likely_mo5 ha hb hlm h
theorem nI_ltI' {a b : Nat} (ha : a < 2147483648) (hb : b < 2147483648) : (nI a = nI b) ↔ a = b := nI_eq' ⟨ha, hb⟩
theorem t_X6_writeMode {md lk : Nat} {bs : List Nat} {wo wb sc : Int32} {sb : Nat → Int32} {K : Int32 → Int32 → Int32 → (Nat → Int32) → Prop} (hm : md < 9) (hk : lk < 9) (hl : bs.length + 4 < 63999) (hR : RepC bs wo wb sc sb) (h : ∀ wo' wb' sc' sb', RepC (bs ++ wMo md lk) wo' wb' sc' sb' → K wo' wb' sc' sb') : wp_X6_writeMode wo wb sc sb (nI md) (nI lk) K := by
  unfold wp_X6_writeMode jn1
  unfold wMo at h
  rw [nI_eq', nI_le']
  refine ⟨fun c => ?_, fun c => ?_⟩
  · rw [if_pos c] at h
    exact t_X6_writeBits (V := 1) (k := 1) (by decide) (by decide) (by omega) hR h
  · rw [if_neg c] at h
    refine t_X6_writeBits (V := 0) (k := 1) (by decide) (by decide) (by omega) hR (fun wo1 wb1 sc1 sb1 h1 => ⟨fun c2 => ?_, fun c2 => ?_⟩)
    · rw [if_pos c2] at h
      refine t_X6_writeBits (k := 3) (by omega) (by decide) (by rw [List.length_append, wB_len]; omega) h1 (fun wo2 wb2 sc2 sb2 h2 => h _ _ _ _ ?_)
      rw [List.append_assoc] at h2; exact h2
    · rw [if_neg c2] at h
      rw [nI_m1]
      refine t_X6_writeBits (k := 3) (by omega) (by decide) (by rw [List.length_append, wB_len]; omega) h1 (fun wo2 wb2 sc2 sb2 h2 => h _ _ _ _ ?_)
      rw [List.append_assoc] at h2; exact h2
theorem code_eq {x : Int32} (hx : bnd 4095 x) : (x ≤ 0 → (-2) * x = nI (codeN x)) ∧ (¬ x ≤ 0 → (2 * x) - 1 = nI (codeN x)) := by
  unfold bnd at hx
  have e0 : (0 : Int32).toInt = 0 := by decide
  have em2 : (-2 : Int32) = zI (-2) := by decide
  have e2 : (2 : Int32) = zI 2 := rfl
  have e1 : (1 : Int32) = zI 1 := rfl
  unfold codeN
  rw [Int32.le_iff_toInt_le, e0]
  refine ⟨fun c => ?_, fun c => ?_⟩
  · rw [if_pos c, zI_of x, em2, zI_mul, zI_nat, zI_toInt (by omega)]; congr 1; omega
  · rw [if_neg c, zI_of x, e2, e1, zI_mul, zI_sub, zI_nat, zI_toInt (by omega)]; congr 1; omega
theorem t_X6_writeLevels {b : Nat} {lv l : Nat → Int32} {bs : List Nat} {wo wb sc : Int32} {sb : Nat → Int32} {K : Int32 → Int32 → Int32 → (Nat → Int32) → Prop} (hb : b < 64) (hlv : ∀ i, i < 16 → lv (16 * b + i) = l i) (hbd : ∀ i, i < 16 → bnd 4095 (l i)) (hl : bs.length + 891 < 63999) (hR : RepC bs wo wb sc sb) (h : ∀ wo' wb' sc' sb', RepC (bs ++ wU (cnt l 16) ++ (rS l 16).2) wo' wb' sc' sb' → K wo' wb' sc' sb') : wp_X6_writeLevels wo wb sc sb lv (nI (16 * b)) K := by
  have hc16 := cnt_le l 16
  unfold wp_X6_writeLevels
  refine loopS (fun n i s => wl_X6_writeLevels_5 (nI (16 * b)) lv K (fun (v3_7 : Int32) (v4_7 : Int32) => wp_X6_writeNumber wo wb sc sb v3_7 (fun (wo_8 : Int32) (wb_8 : Int32) (sc_8 : Int32) (sb_8 : (Nat → Int32)) => ∃ k : Nat, wl_X6_writeLevels_41 (nI (16 * b)) lv K (fun (v4_20 : Int32) (v5_20 : Int32) (wo_20 : Int32) (wb_20 : Int32) (sc_20 : Int32) (sb_20 : (Nat → Int32)) => K wo_20 wb_20 sc_20 sb_20) k 0 0 wo_8 wb_8 sc_8 sb_8)) n s (nI i)) (fun i => nI (cnt l i)) 16 (fun n => ?_) (fun n i hi ih => ?_)
  · rw [wl_X6_writeLevels_5]
    refine yes (by decide) (t_X6_writeNumber (by omega) (by omega) hR (fun wo1 wb1 sc1 sb1 h1 => ?_))
    have hU := wU_len (V := cnt l 16) (by omega)
    refine pk_loop (fun n i (s : Int32 × Int32 × Int32 × Int32 × (Nat → Int32)) => wl_X6_writeLevels_41 (nI (16 * b)) lv K (fun (v4_20 : Int32) (v5_20 : Int32) (wo_20 : Int32) (wb_20 : Int32) (sc_20 : Int32) (sb_20 : (Nat → Int32)) => K wo_20 wb_20 sc_20 sb_20) n s.1 (nI i) s.2.1 s.2.2.1 s.2.2.2.1 s.2.2.2.2)
      (fun i s => s.1 = nI (rS l i).1 ∧ RepC (bs ++ wU (cnt l 16) ++ (rS l i).2) s.2.1 s.2.2.1 s.2.2.2.1 s.2.2.2.2) 16 0 (0, wo1, wb1, sc1, sb1) (by decide) ⟨rfl, by show RepC (bs ++ wU (cnt l 16) ++ []) _ _ _ _; rw [List.append_nil]; exact h1⟩ (fun n s hI => ?_) (fun n i s hi hI ih => ?_)
    · rw [wl_X6_writeLevels_41]
      exact yes (by decide) (h _ _ _ _ hI.2)
    · obtain ⟨v4, wo2, wb2, sc2, sb2⟩ := s
      obtain ⟨hv, h2⟩ := hI
      dsimp only at hv h2 ⊢
      subst hv
      rw [wl_X6_writeLevels_41, nI_add]
      refine nay (nI_ge (a := i) (b := 16) hi (by decide)) ⟨nI_in', fun x hx => ?_⟩
      rw [jat_nI, hlv i hi] at hx
      subst hx
      unfold jn5 jn1
      have hr := rS_le (l := l) i
      have hrl := rS_len hbd i (by omega)
      refine ⟨fun c x hx y hy => ?_, fun c => ?_⟩
      · rw [hx, hy, nI_1, nI_1]
        refine ih (nI ((rS l i).1 + 1), wo2, wb2, sc2, sb2) ?_
        rw [rS, if_pos c]
        exact ⟨rfl, h2⟩
      · have hlen1 : (bs ++ wU (cnt l 16) ++ (rS l i).2).length + 54 < 63999 := by
          rw [List.length_append, List.length_append]; omega
        refine t_X6_writeNumber (by omega) (by omega) h2 (fun wo3 wb3 sc3 sb3 h3 => ?_)
        have hU3 := wU_len (V := (rS l i).1) (by omega)
        have hce := code_eq (hbd i hi)
        have hcl := code_le (hbd i hi)
        have fin : wp_X6_writeNumber wo3 wb3 sc3 sb3 (nI (codeN (l i))) (fun (wo_17 : Int32) (wb_17 : Int32) (sc_17 : Int32) (sb_17 : (Nat → Int32)) => ∀ x5_13 : Int32, x5_13 = nI i + 1 → wl_X6_writeLevels_41 (nI (16 * b)) lv K (fun (v4_20 : Int32) (v5_20 : Int32) (wo_20 : Int32) (wb_20 : Int32) (sc_20 : Int32) (sb_20 : (Nat → Int32)) => K wo_20 wb_20 sc_20 sb_20) n 0 x5_13 wo_17 wb_17 sc_17 sb_17) := by
          refine t_X6_writeNumber hcl (by rw [List.length_append]; omega) h3 (fun wo4 wb4 sc4 sb4 h4 x hx => ?_)
          rw [hx, nI_1]
          refine ih (0, wo4, wb4, sc4, sb4) ?_
          rw [rS, if_neg c]
          refine ⟨rfl, ?_⟩
          dsimp only
          simp only [List.append_assoc] at h4 ⊢
          exact h4
        refine ⟨fun c2 => ?_, fun c2 => ?_⟩
        · rw [hce.1 c2]; exact fin
        · rw [hce.2 c2]; exact fin
  · rw [wl_X6_writeLevels_5, nI_add]
    refine nay (nI_ge (a := i) (b := 16) hi (by decide)) ⟨nI_in', ?_⟩
    unfold jn1
    rw [jat_nI, hlv i hi]
    have e : cnt l (i + 1) = cnt l i + (if l i = 0 then 0 else 1) := rfl
    rw [e] at ih
    refine ⟨fun c x hx => ?_, fun c y hy x hx => ?_⟩
    · rw [if_pos c] at ih
      rw [hx, nI_1]; exact ih
    · rw [if_neg c] at ih
      rw [hx, hy, nI_1, nI_1]; exact ih
theorem t_X10_writeS {x : Int32} {bs : List Nat} {mat : Int32} {mby : Nat → Int32} {K : Int32 → (Nat → Int32) → Prop} (hx : bnd 4095 x) (hl : bs.length + 27 < 63999) (hR : RepM bs mat mby) (h : ∀ mat' mby', RepM (bs ++ wU (codeN x)) mat' mby' → K mat' mby') : wp_X10_writeS mat mby x K := by
  unfold wp_X10_writeS jn1
  have hce := code_eq hx
  refine ⟨fun c2 => ?_, fun c2 => ?_⟩
  · rw [hce.1 c2]; exact t_X10_writeU (code_le hx) hl hR h
  · rw [hce.2 c2]; exact t_X10_writeU (code_le hx) hl hR h
theorem ix16 (b i : Nat) : (16 * nI b) + nI i = nI (16 * b + i) := by
  show nI 16 * nI b + nI i = _
  rw [pk_mul, nI_add]
theorem t_X10_writeBlock {a b : Nat} {mmod mcoe l : Nat → Int32} {mo : Nat → Nat} {bs : List Nat} {mat : Int32} {mby : Nat → Int32} {K : Int32 → (Nat → Int32) → Prop} (ha : 1 ≤ a ∧ a ≤ 8) (hb : b < 64) (hmo : ∀ c, c ≤ b → mmod c = nI (mo c) ∧ mo c < 9) (hlv : ∀ i, i < 16 → mcoe (16 * b + i) = l i) (hbd : ∀ i, i < 16 → bnd 4095 (l i)) (hl : bs.length + 895 < 63999) (hR : RepM bs mat mby)
    (h : ∀ mat' mby', RepM (bs ++ wBl a mo l b) mat' mby' → K mat' mby') : wp_X10_writeBlock (nI a) mat mmod mcoe mby (nI b) K := by
  have hc16 := cnt_le l 16
  have hlk : lkly a mo b < 9 := lkly_lt (fun c hc => (hmo c (by omega)).2) (fun _ => by omega)
  obtain ⟨hm1, hm2⟩ := hmo b (Nat.le_refl _)
  unfold wp_X10_writeBlock
  refine ⟨nI_in', fun x hx => t_X10_likely_mo5 ha hb (fun c hc => hmo c (by omega)) ?_⟩
  rw [jat_nI, hm1] at hx
  subst hx
  unfold jn2 jn1
  have rest : ∀ (mat1 : Int32) (mby1 : Nat → Int32), RepM (bs ++ wMo (mo b) (lkly a mo b)) mat1 mby1 → ∃ k : Nat, wl_X10_writeBlock_60 (nI b) mcoe K (fun (v4_11 : Int32) (v5_11 : Int32) => wp_X10_writeU mat1 mby1 v4_11 (fun (mat_12 : Int32) (mby_12 : (Nat → Int32)) => ∃ k : Nat, wl_X10_writeBlock_110 (nI b) mcoe K (fun (v5_22 : Int32) (v6_22 : Int32) (mat_22 : Int32) (mby_22 : (Nat → Int32)) => K mat_22 mby_22) k 0 0 mat_12 mby_12)) k 0 0 := by
    intro mat1 mby1 h1
    have hml := wMo_len (mo b) (lkly a mo b)
    refine loopS (fun n i s => wl_X10_writeBlock_60 (nI b) mcoe K (fun (v4_11 : Int32) (v5_11 : Int32) => wp_X10_writeU mat1 mby1 v4_11 (fun (mat_12 : Int32) (mby_12 : (Nat → Int32)) => ∃ k : Nat, wl_X10_writeBlock_110 (nI b) mcoe K (fun (v5_22 : Int32) (v6_22 : Int32) (mat_22 : Int32) (mby_22 : (Nat → Int32)) => K mat_22 mby_22) k 0 0 mat_12 mby_12)) n s (nI i)) (fun i => nI (cnt l i)) 16 (fun n => ?_) (fun n i hi ih => ?_)
    · rw [wl_X10_writeBlock_60]
      refine yes (by decide) (t_X10_writeU (by omega) (by rw [List.length_append]; omega) h1 (fun mat2 mby2 h2 => ?_))
      have hU := wU_len (V := cnt l 16) (by omega)
      refine pk_loop (fun n i (s : Int32 × Int32 × (Nat → Int32)) => wl_X10_writeBlock_110 (nI b) mcoe K (fun (v5_22 : Int32) (v6_22 : Int32) (mat_22 : Int32) (mby_22 : (Nat → Int32)) => K mat_22 mby_22) n s.1 (nI i) s.2.1 s.2.2)
        (fun i s => s.1 = nI (rS l i).1 ∧ RepM (bs ++ wMo (mo b) (lkly a mo b) ++ wU (cnt l 16) ++ (rS l i).2) s.2.1 s.2.2) 16 0 (0, mat2, mby2) (by decide) ⟨rfl, by show RepM (bs ++ wMo (mo b) (lkly a mo b) ++ wU (cnt l 16) ++ []) _ _; rw [List.append_nil]; exact h2⟩ (fun n s hI => ?_) (fun n i s hi hI ih => ?_)
      · rw [wl_X10_writeBlock_110]
        refine yes (by decide) (h _ _ ?_)
        have := hI.2
        unfold wBl
        simp only [List.append_assoc] at this ⊢
        exact this
      · obtain ⟨v5, mat3, mby3⟩ := s
        obtain ⟨hv, h3⟩ := hI
        dsimp only at hv h3 ⊢
        subst hv
        rw [wl_X10_writeBlock_110, ix16]
        refine nay (nI_ge (a := i) (b := 16) hi (by decide)) ⟨nI_in', fun x hx => ?_⟩
        rw [jat_nI, hlv i hi] at hx
        subst hx
        unfold jn3
        have hr := rS_le (l := l) i
        have hrl := rS_len hbd i (by omega)
        refine ⟨fun c x hx y hy => ?_, fun c => ?_⟩
        · rw [hx, hy, nI_1, nI_1]
          refine ih (nI ((rS l i).1 + 1), mat3, mby3) ?_
          rw [rS, if_pos c]
          exact ⟨rfl, h3⟩
        · have hlen1 : (bs ++ wMo (mo b) (lkly a mo b) ++ wU (cnt l 16) ++ (rS l i).2).length + 54 < 63999 := by
            rw [List.length_append, List.length_append, List.length_append]; omega
          refine t_X10_writeU (by omega) (by omega) h3 (fun mat4 mby4 h4 => ?_)
          have hU3 := wU_len (V := (rS l i).1) (by omega)
          refine t_X10_writeS (hbd i hi) (by rw [List.length_append]; omega) h4 (fun mat5 mby5 h5 x hx => ?_)
          rw [hx, nI_1]
          refine ih (0, mat5, mby5) ?_
          rw [rS, if_neg c]
          refine ⟨rfl, ?_⟩
          dsimp only
          simp only [List.append_assoc] at h5 ⊢
          exact h5
    · rw [wl_X10_writeBlock_60, ix16]
      refine nay (nI_ge (a := i) (b := 16) hi (by decide)) ⟨nI_in', ?_⟩
      unfold jn1
      rw [jat_nI, hlv i hi]
      have e : cnt l (i + 1) = cnt l i + (if l i = 0 then 0 else 1) := rfl
      rw [e] at ih
      refine ⟨fun c y hy x hx => ?_, fun c y hy x hx => ?_⟩
      · rw [if_pos c] at ih
        rw [hx, hy, nI_1, Int32.add_zero]; exact ih
      · rw [if_neg c] at ih
        rw [hx, hy, nI_1, nI_1]; exact ih
  have rest' := rest
  unfold wMo at rest
  rw [nI_eq', nI_le']
  refine ⟨fun c => ?_, fun c => ?_⟩
  · rw [if_pos c] at rest
    exact t_X10_write (V := 1) (k := 1) (by decide) (by decide) (by omega) hR rest
  · rw [if_neg c] at rest
    refine t_X10_write (V := 0) (k := 1) (by decide) (by decide) (by omega) hR (fun mat1 mby1 h1 => ⟨fun c2 => ?_, fun c2 => ?_⟩)
    · rw [if_pos c2] at rest
      refine t_X10_write (k := 3) (by omega) (by decide) (by rw [List.length_append, wB_len]; omega) h1 (fun mat2 mby2 h2 => rest _ _ ?_)
      rw [List.append_assoc] at h2; exact h2
    · rw [if_neg c2] at rest
      rw [nI_m1]
      refine t_X10_write (k := 3) (by omega) (by decide) (by rw [List.length_append, wB_len]; omega) h1 (fun mat2 mby2 h2 => rest _ _ ?_)
      rw [List.append_assoc] at h2; exact h2
/-! the whole -/
def hdB (a d q z : Nat) : List Nat := wU (a - 1) ++ wU (d - 1) ++ wU q ++ wB z 1
def allB (a d q z : Nat) (mo : Nat → Nat) (lvl : Nat → Nat → Int32) : Nat → List Nat
  | 0 => hdB a d q z
  | b + 1 => allB a d q z mo lvl b ++ wBl a mo (lvl b) b
theorem hdB_len {a d q z : Nat} (hs : 1 ≤ a ∧ a ≤ 8 ∧ 1 ≤ d ∧ d ≤ 8) (hq : q ≤ 51) : (hdB a d q z).length ≤ 82 := by
  have h1 := wU_len (V := a - 1) (by omega)
  have h2 := wU_len (V := d - 1) (by omega)
  have h3 := wU_len (V := q) (by omega)
  unfold hdB
  rw [List.length_append, List.length_append, List.length_append, wB_len]; omega
theorem allB_len {a d q z : Nat} {mo : Nat → Nat} {lvl : Nat → Nat → Int32} (hs : 1 ≤ a ∧ a ≤ 8 ∧ 1 ≤ d ∧ d ≤ 8) (hq : q ≤ 51) : ∀ b, (∀ c, c < b → ∀ i, i < 16 → bnd 4095 (lvl c i)) → (allB a d q z mo lvl b).length ≤ 82 + 895 * b
  | 0, _ => hdB_len hs hq
  | b + 1, h => by
    have h1 := allB_len hs hq (z := z) (mo := mo) b (fun c hc => h c (by omega))
    have h2 := wBl_len (a := a) (mo := mo) (b := b) (h b (by omega))
    show (allB a d q z mo lvl b ++ wBl a mo (lvl b) b).length ≤ _
    rw [List.length_append]; omega
theorem wB0 : ∀ k, wB 0 k = List.replicate k 0
  | 0 => rfl
  | k + 1 => by
    show (0 / 2 ^ k % 2) :: wB 0 k = 0 :: List.replicate k 0
    rw [wB0 k, Nat.zero_div]
theorem gD_pad (bs : List Nat) (k i : Nat) : (bs ++ wB 0 k).getD i 0 = bs.getD i 0 := by
  rw [wB0]
  rcases Nat.lt_or_ge i bs.length with c | c
  · simp [List.getD_eq_getElem?_getD, List.getElem?_append, c]
  · rw [gD_ge c]
    simp only [List.getD_eq_getElem?_getD, List.getElem?_append, List.getElem?_replicate]
    split
    · next c2 => exact absurd c2 (by omega)
    · split <;> rfl
theorem byt_pad (bs : List Nat) (k j r : Nat) : byt (bs ++ wB 0 k) j r = byt bs j r := pvf_congr r (fun t _ => gD_pad bs k _)
theorem t_X6_write {a d q z : Nat} {lm lv : Nat → Int32} {mo : Nat → Nat} {lvl : Nat → Nat → Int32} {wo wb sc : Int32} {sb : Nat → Int32} {K : Int32 → Int32 → Int32 → (Nat → Int32) → Prop} (hs : 1 ≤ a ∧ a ≤ 8 ∧ 1 ≤ d ∧ d ≤ 8) (hq : q ≤ 51) (hz : z ≤ 1)
    (hmo : ∀ b, b < a * d → lm b = nI (mo b) ∧ mo b < 9) (hlv : ∀ b, b < a * d → ∀ i, i < 16 → lv (16 * b + i) = lvl b i ∧ bnd 4095 (lvl b i))
    (h : ∀ wo' wb' sc' sb', sc' = nI (((allB a d q z mo lvl (a * d)).length + 7) / 8) → (∀ k, 8 * k < (allB a d q z mo lvl (a * d)).length → sb' k &&& 255 = nI (byt (allB a d q z mo lvl (a * d)) k 8)) → K wo' wb' sc' sb') :
    wp_X6_write wo wb sc sb (nI a) (nI d) (nI q) (nI z) lm lv K := by
  have had := ad_le hs
  have ha : 1 ≤ a ∧ a ≤ 8 := ⟨hs.1, hs.2.1⟩
  have h0 : RepC [] 0 0 0 sb := ⟨rfl, rfl, rfl, fun k hk => absurd hk (by simp), fun x hx => absurd hx (by simp)⟩
  have u1 := wU_len (V := a - 1) (by omega)
  have u2 := wU_len (V := d - 1) (by omega)
  have u3 := wU_len (V := q) (by omega)
  unfold wp_X6_write
  rw [nI_m1, nI_m1]
  refine t_X6_writeNumber (by omega) (by simp) h0 (fun wo1 wb1 sc1 sb1 h1 => t_X6_writeNumber (by omega) (by simp; omega) h1 (fun wo2 wb2 sc2 sb2 h2 => t_X6_writeNumber (by omega) (by simp; omega) h2 (fun wo3 wb3 sc3 sb3 h3 => ?_)))
  unfold jn1
  have rest : wp_X6_writeBits wo3 wb3 sc3 sb3 (nI z) 1 (fun (wo_8 : Int32) (wb_8 : Int32) (sc_8 : Int32) (sb_8 : (Nat → Int32)) => ∃ k : Nat, wl_X6_write_65 (nI a) (nI d) lm lv K (fun (v2_16 : Int32) (wo_16 : Int32) (wb_16 : Int32) (sc_16 : Int32) (sb_16 : (Nat → Int32)) => ((wb_16 ≤ 0 → K wo_16 wb_16 sc_16 sb_16) ∧ (¬ wb_16 ≤ 0 → wp_X6_writeBits wo_16 wb_16 sc_16 sb_16 0 (8 - wb_16) (fun (wo_18 : Int32) (wb_18 : Int32) (sc_18 : Int32) (sb_18 : (Nat → Int32)) => K wo_18 wb_18 sc_18 sb_18)))) k 0 wo_8 wb_8 sc_8 sb_8) := by
    refine t_X6_writeBits (k := 1) (by omega) (by decide) (by simp; omega) h3 (fun wo4 wb4 sc4 sb4 h4 => ?_)
    have h4' : RepC (allB a d q z mo lvl 0) wo4 wb4 sc4 sb4 := by
      show RepC (hdB a d q z) wo4 wb4 sc4 sb4
      rw [List.nil_append] at h4
      exact h4
    refine pk_loop (fun n i (s : Int32 × Int32 × Int32 × (Nat → Int32)) => wl_X6_write_65 (nI a) (nI d) lm lv K (fun (v2_16 : Int32) (wo_16 : Int32) (wb_16 : Int32) (sc_16 : Int32) (sb_16 : (Nat → Int32)) => ((wb_16 ≤ 0 → K wo_16 wb_16 sc_16 sb_16) ∧ (¬ wb_16 ≤ 0 → wp_X6_writeBits wo_16 wb_16 sc_16 sb_16 0 (8 - wb_16) (fun (wo_18 : Int32) (wb_18 : Int32) (sc_18 : Int32) (sb_18 : (Nat → Int32)) => K wo_18 wb_18 sc_18 sb_18)))) n (nI i) s.1 s.2.1 s.2.2.1 s.2.2.2)
      (fun i s => RepC (allB a d q z mo lvl i) s.1 s.2.1 s.2.2.1 s.2.2.2) (a * d) 0 (wo4, wb4, sc4, sb4) (by omega) h4' (fun n s hI => ?_) (fun n b s hb hI ih => ?_)
    · obtain ⟨wo5, wb5, sc5, sb5⟩ := s
      dsimp only at hI ⊢
      rw [wl_X6_write_65]
      unfold wp_X4_blocks
      rw [pk_mul]
      dsimp only
      rw [nI_le']
      refine yes (by omega) ?_
      have hlen := allB_len (z := z) (mo := mo) (lvl := lvl) hs hq (a * d) (fun c hc i hi => (hlv c hc i hi).2)
      obtain ⟨r1, r2, r3, r4, r5⟩ := id hI
      generalize hBS : allB a d q z mo lvl (a * d) = BS at *
      have e0 : (0 : Int32) = nI 0 := rfl
      have e8 : (8 : Int32) = nI 8 := rfl
      subst r2
      refine ⟨fun c => ?_, fun c => ?_⟩
      · rw [e0, nI_le'] at c
        refine h _ _ _ _ ?_ (fun k hk => r4 k (by omega))
        rw [r1]; congr 1; omega
      · rw [e0, nI_le'] at c
        rw [e8, nI_sub' (by omega)]
        refine t_X6_writeBits (V := 0) (by decide) (by omega) (by omega) hI (fun wo6 wb6 sc6 sb6 h6 => ?_)
        obtain ⟨g1, -, -, g4, -⟩ := h6
        rw [List.length_append, wB_len] at g1 g4
        refine h _ _ _ _ ?_ (fun k hk => ?_)
        · rw [g1]; congr 1; omega
        · rw [g4 k (by omega), byt_pad]
    · obtain ⟨wo5, wb5, sc5, sb5⟩ := s
      dsimp only at hI ⊢
      have hlen := allB_len (z := z) (mo := mo) (lvl := lvl) hs hq b (fun c hc i hi => (hlv c (by omega) i hi).2)
      have hml := wMo_len (mo b) (lkly a mo b)
      have hlk : lkly a mo b < 9 := lkly_lt (fun c hc => (hmo c (by omega)).2) (fun _ => by omega)
      rw [wl_X6_write_65]
      unfold wp_X4_blocks
      have e16 : (16 * nI b : Int32) = nI (16 * b) := pk_mul 16 b
      rw [pk_mul]
      dsimp only
      rw [nI_le', e16]
      refine nay (by omega) ⟨nI_in', t_X4_likelyMode ha (by omega) (fun c hc => hmo c (by omega)) ?_⟩
      rw [jat_nI, (hmo b hb).1]
      refine t_X6_writeMode (hmo b hb).2 hlk (by omega) hI (fun wo6 wb6 sc6 sb6 h6 => t_X6_writeLevels (l := lvl b) (by omega) (fun i hi => (hlv b hb i hi).1) (fun i hi => (hlv b hb i hi).2) (by rw [List.length_append]; omega) h6 (fun wo7 wb7 sc7 sb7 h7 x hx => ?_))
      rw [hx, nI_1]
      refine ih (wo7, wb7, sc7, sb7) ?_
      show RepC (allB a d q z mo lvl b ++ wBl a mo (lvl b) b) wo7 wb7 sc7 sb7
      unfold wBl
      simp only [List.append_assoc] at h7 ⊢
      exact h7
  have hzz : z = 0 ∨ z = 1 := by omega
  rcases hzz with rfl | rfl
  · exact yes rfl rest
  · exact nay (by decide) rest
