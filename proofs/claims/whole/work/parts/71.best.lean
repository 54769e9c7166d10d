/-! the best mode, and a block packed -/
def okM (a d : Nat) (m : Nat → Int32) : Prop := ∀ x y, x < 4 * a → y < 4 * d → pOk (m (32 * y + x))
theorem okM_of {a d : Nat} {px m : Nat → Int32} (h : rPic a d px m) : okM a d m := fun x y hx hy => (h x y hx hy).2
theorem pOk_sp2 {x y : Int32} (hx : pOk x) (hy : pOk y) : pOk (sp2 x y) := by
  obtain ⟨n, hn, rfl⟩ := hx
  obtain ⟨k, hk, rfl⟩ := hy
  refine ⟨(n + k + 1) / 2, by omega, ?_⟩
  unfold sp2
  rw [nI_add, nI_1]
  exact nI_div' (b := 2) (by omega)
theorem pOk_sp3 {x y z : Int32} (hx : pOk x) (hy : pOk y) (hz : pOk z) : pOk (sp3 x y z) := by
  obtain ⟨n, hn, rfl⟩ := hx
  obtain ⟨k, hk, rfl⟩ := hy
  obtain ⟨l, hl, rfl⟩ := hz
  refine ⟨(n + 2 * k + l + 2) / 4, by omega, ?_⟩
  unfold sp3
  have e2 : (2 : Int32) = nI 2 := rfl
  rw [e2, pk_mul, nI_add, nI_add, nI_add]
  exact nI_div' (b := 4) (by omega)
theorem lnT_ok {a d b : Nat} {m : Nat → Int32} (hs : 1 ≤ a ∧ a ≤ 8 ∧ 1 ≤ d ∧ d ≤ 8) (hb : b < a * d) (h : okM a d m) (hu : 0 < b / a) (k : Nat) : pOk (lnT m a b k) := by
  obtain ⟨h1, h2, h3⟩ := blk hs hb
  unfold lnT
  exact h _ _ (by split <;> omega) (by omega)
theorem lnL_ok {a d b : Nat} {m : Nat → Int32} (hs : 1 ≤ a ∧ a ≤ 8 ∧ 1 ≤ d ∧ d ≤ 8) (hb : b < a * d) (h : okM a d m) (hl : 0 < b % a) (k : Nat) : pOk (lnL m a b k) := by
  obtain ⟨h1, h2, h3⟩ := blk hs hb
  unfold lnL
  exact h _ _ (by omega) (by omega)
theorem lnM_ok {a d b : Nat} {m : Nat → Int32} (hs : 1 ≤ a ∧ a ≤ 8 ∧ 1 ≤ d ∧ d ≤ 8) (hb : b < a * d) (h : okM a d m) (hu : 0 < b / a) (hl : 0 < b % a) : pOk (lnM m a b) := by
  obtain ⟨h1, h2, h3⟩ := blk hs hb
  unfold lnM
  exact h _ _ (by omega) (by omega)
theorem sum4 {x y z w : Int32} (hx : pOk x) (hy : pOk y) (hz : pOk z) (hw : pOk w) : ∃ n : Nat, n ≤ 1020 ∧ ((x + y) + z) + w = nI n := by
  obtain ⟨n, hn, rfl⟩ := hx
  obtain ⟨k, hk, rfl⟩ := hy
  obtain ⟨l, hl, rfl⟩ := hz
  obtain ⟨o, ho, rfl⟩ := hw
  exact ⟨n + k + l + o, by omega, by rw [nI_add, nI_add, nI_add]⟩
theorem mean_ok {a d b : Nat} {m : Nat → Int32} (hs : 1 ≤ a ∧ a ≤ 8 ∧ 1 ≤ d ∧ d ≤ 8) (hb : b < a * d) (h : okM a d m) : pOk (meanM m a b) := by
  have T : 0 < b / a → ∃ n : Nat, n ≤ 1020 ∧ sumT m a b = nI n := fun hu => sum4 (lnT_ok hs hb h hu 0) (lnT_ok hs hb h hu 1) (lnT_ok hs hb h hu 2) (lnT_ok hs hb h hu 3)
  have L : 0 < b % a → ∃ n : Nat, n ≤ 1020 ∧ sumL m a b = nI n := fun hl => sum4 (lnL_ok hs hb h hl 0) (lnL_ok hs hb h hl 1) (lnL_ok hs hb h hl 2) (lnL_ok hs hb h hl 3)
  have e2 : (2 : Int32) = nI 2 := rfl
  have e4 : (4 : Int32) = nI 4 := rfl
  have e8 : (8 : Int32) = nI 8 := rfl
  unfold meanM
  split
  · next hu =>
    obtain ⟨n, hn, en⟩ := T hu
    split
    · next hl =>
      obtain ⟨k, hk, ek⟩ := L hl
      refine ⟨(n + k + 4) / 8, by omega, ?_⟩
      rw [en, ek, e4, e8, nI_add, nI_add, nI_div']
    · refine ⟨(n + 2) / 4, by omega, ?_⟩
      rw [en, e4, e2, nI_add, nI_div']
  · split
    · next hl =>
      obtain ⟨k, hk, ek⟩ := L hl
      refine ⟨(k + 2) / 4, by omega, ?_⟩
      rw [ek, e4, e2, nI_add, nI_div']
    · exact ⟨128, by decide, rfl⟩
theorem lean_ok {P : Int → Int32} {x y : Int} (hx : 0 ≤ x) (hy : 0 ≤ y) (h : ∀ z, 1 ≤ z → pOk (P z)) : pOk (leanP P x y) := by
  unfold leanP
  split
  · exact pOk_sp2 (h _ (by omega)) (h _ (by omega))
  · exact pOk_sp3 (h _ (by omega)) (h _ (by omega)) (h _ (by omega))
theorem slant_ok {P : Int → Int32} {x y : Int} (h : ∀ z, pOk (P z)) : pOk (slantP P x y) := by
  unfold slantP
  split
  · exact pOk_sp2 (h _) (h _)
  · split
    · exact pOk_sp3 (h _) (h _) (h _)
    · exact pOk_sp3 (h _) (h _) (h _)
theorem told_ok {a d b mode : Nat} {m : Nat → Int32} {x y : Int} (hs : 1 ≤ a ∧ a ≤ 8 ∧ 1 ≤ d ∧ d ≤ 8) (hb : b < a * d) (h : okM a d m) (hm : mode < 9) (hmay : mayB (0 < b / a) (0 < b % a) mode) (hx : 0 ≤ x) (hy : 0 ≤ y) : pOk (toldP (lnP m a b) (meanM m a b) mode x y) := by
  have U : 0 < b / a → ∀ z, 1 ≤ z → pOk (lnP m a b z) := fun hu z hz => by
    unfold lnP; rw [if_pos (by omega)]; exact lnT_ok hs hb h hu _
  have L : 0 < b % a → ∀ z, z ≤ -1 → pOk (lnP m a b z) := fun hl z hz => by
    unfold lnP; rw [if_neg (by omega), if_pos (by omega)]; exact lnL_ok hs hb h hl _
  have B : 0 < b / a → 0 < b % a → ∀ z, pOk (lnP m a b z) := fun hu hl z => by
    rcases Int.lt_trichotomy z 0 with c | c | c
    · exact L hl z (by omega)
    · subst c; exact lnM_ok hs hb h hu hl
    · exact U hu z (by omega)
  have hcs : mode = 0 ∨ mode = 1 ∨ mode = 2 ∨ mode = 3 ∨ mode = 4 ∨ mode = 5 ∨ mode = 6 ∨ mode = 7 ∨ mode = 8 := by omega
  rcases hcs with rfl | rfl | rfl | rfl | rfl | rfl | rfl | rfl | rfl
  · exact U hmay _ (by omega)
  · exact L hmay _ (by omega)
  · exact mean_ok hs hb h
  · exact pOk_sp3 (U hmay _ (by omega)) (U hmay _ (by omega)) (U hmay _ (by omega))
  · exact pOk_sp3 (B hmay.1 hmay.2 _) (B hmay.1 hmay.2 _) (B hmay.1 hmay.2 _)
  · change pOk (slantP (lnP m a b) x y)
    exact slant_ok (B hmay.1 hmay.2)
  · change pOk (slantP (fun z => lnP m a b (-z)) y x)
    exact slant_ok (P := fun z => lnP m a b (-z)) (fun z => B hmay.1 hmay.2 (-z))
  · change pOk (leanP (lnP m a b) x y)
    exact lean_ok hx hy (U hmay)
  · change pOk (leanP (fun z => lnP m a b (-z)) y x)
    exact lean_ok (P := fun z => lnP m a b (-z)) hy hx (fun z hz => L hmay (-z) (by omega))
theorem okM_at {a d b i : Nat} {m : Nat → Int32} (hs : 1 ≤ a ∧ a ≤ 8 ∧ 1 ≤ d ∧ d ≤ 8) (hb : b < a * d) (h : okM a d m) (hi : i < 16) : pOk (m (atP a b i)) := by
  obtain ⟨h1, h2, h3⟩ := blk hs hb
  unfold atP
  exact h _ _ (by omega) (by omega)
def res (m : Nat → Int32) (a b mode i : Nat) : Int32 := m (atP a b i) - tol m a b mode i
theorem res_bd {a d b mode : Nat} {m : Nat → Int32} (hs : 1 ≤ a ∧ a ≤ 8 ∧ 1 ≤ d ∧ d ≤ 8) (hb : b < a * d) (h : okM a d m) (hm : mode < 9) (hmay : mayB (0 < b / a) (0 < b % a) mode) : bd 255 (res m a b mode) := by
  intro i hi
  obtain ⟨n, hn, en⟩ := okM_at hs hb h hi
  obtain ⟨k, hk, ek⟩ := told_ok hs hb h hm hmay (x := ((i % 4 : Nat) : Int)) (y := ((i / 4 : Nat) : Int)) (by omega) (by omega)
  unfold res tol bnd
  rw [en, ek, zI_nat, zI_nat, zI_sub, zI_toInt]; omega
def cN (r : Nat → Int32) : Nat → Nat
  | 0 => 0
  | i + 1 => cN r i + (r i).toInt.natAbs
theorem cN_le {r : Nat → Int32} (h : bd 255 r) : ∀ i, i ≤ 16 → cN r i ≤ 255 * i
  | 0, _ => Nat.le_refl _
  | i + 1, hi => by
    have h1 := cN_le h i (by omega)
    have h2 := h i (by omega)
    unfold bnd at h2
    show cN r i + (r i).toInt.natAbs ≤ _
    omega
theorem t_X1_sumOfSizes {a d b : Nat} {px mt r : Nat → Int32} {K : Int32 → Prop} (hs : 1 ≤ a ∧ a ≤ 8 ∧ 1 ≤ d ∧ d ≤ 8) (hb : b < a * d) (hr : ∀ i, i < 16 → px (atP a b i) - mt i = r i) (hbd : bd 255 r) (h : K (nI (cN r 16))) : wp_X1_sumOfSizes mt px (nI (4 * (b % a))) (nI (4 * (b / a))) K := by
  refine loopS (fun n i s => wl_X1_sumOfSizes_5 (nI (4 * (b % a))) (nI (4 * (b / a))) mt px K (fun (v3_5 : Int32) (v4_5 : Int32) => K v3_5) n s (nI i)) (fun i => nI (cN r i)) 16 (fun n => ?_) (fun n i hi ih => ?_)
  · rw [wl_X1_sumOfSizes_5]; exact yes (by decide) h
  · rw [wl_X1_sumOfSizes_5]
    refine nay (nI_ge (a := i) (b := 16) hi (by decide)) ?_
    unfold wp_X1_lessTold wp_X3_get
    rw [at_cls hi]
    refine ⟨nI_in' (h := ⟨at_lt hs hb hi, by decide⟩), nI_in', fun x hx y hy => ?_⟩
    rw [jat_nI px (by have := at_lt hs hb hi; omega), jat_nI, hr i hi, abs_n (hbd i hi), nI_add] at hx
    rw [hx, hy, nI_1]; exact ih
theorem t_X10_givenAt {a d b i : Nat} {g : Nat → Int32} {K : Int32 → Prop} (hs : 1 ≤ a ∧ a ≤ 8 ∧ 1 ≤ d ∧ d ≤ 8) (hb : b < a * d) (hi : i < 16) (h : K (g (atP a b i))) : wp_X10_givenAt (nI a) g (nI b) (jrem (nI i) 4) (nI i / 4) K := by
  obtain ⟨h1, h2, h3⟩ := blk hs hb
  have ha : 1 ≤ a ∧ a ≤ 8 := ⟨hs.1, hs.2.1⟩
  unfold wp_X10_givenAt
  rw [nr ha h3, nd ha h3, at_mod hi]
  refine ⟨nne ha, nne ha, nI_in' (h := ⟨at_lt hs hb hi, by decide⟩), ?_⟩
  rw [jat_nI _ (by have := at_lt hs hb hi; omega)]
  exact h
theorem t_X10_costOf {a d b mode : Nat} {m g : Nat → Int32} {K : Int32 → Prop} (hs : 1 ≤ a ∧ a ≤ 8 ∧ 1 ≤ d ∧ d ≤ 8) (hb : b < a * d) (hm : mode < 9) (hmay : mayB (0 < b / a) (0 < b % a) mode) (hg : ∀ i, i < 16 → g (atP a b i) = m (atP a b i)) (hok : okM a d m) (h : K (nI (cN (res m a b mode) 16))) : wp_X10_costOf (nI a) m g (nI b) (nI mode) K := by
  have hbd := res_bd hs hb hok hm hmay
  refine loopS (fun n i s => wl_X10_costOf_5 (nI b) (nI mode) (nI a) m g K (fun (v3_7 : Int32) (v4_7 : Int32) => K v3_7) n s (nI i)) (fun i => nI (cN (res m a b mode) i)) 16 (fun n => ?_) (fun n i hi ih => ?_)
  · rw [wl_X10_costOf_5]; exact yes (by decide) h
  · rw [wl_X10_costOf_5]
    refine nay (nI_ge (a := i) (b := 16) hi (by decide)) (t_X10_givenAt hs hb hi ?_)
    rw [(i4 hi).1, (i4 hi).2, hg i hi]
    refine t_X10_told hs hb hm (by omega) (by omega) hmay (t_X10_size (hbd i hi) (by decide) (fun x hx y hy => ?_))
    rw [hx, hy, nI_1, nI_add]; exact ih
/-! the best mode -/
def isB (m : Nat → Int32) (a b k : Nat) : Prop := k < 9 ∧ mayB (0 < b / a) (0 < b % a) k ∧ (∀ j, j < 9 → mayB (0 < b / a) (0 < b % a) j → cN (res m a b k) 16 ≤ cN (res m a b j) 16) ∧ ∀ j, j < k → mayB (0 < b / a) (0 < b % a) j → cN (res m a b k) 16 < cN (res m a b j) 16
noncomputable def bst (m : Nat → Int32) (a b : Nat) : Nat := Classical.epsilon (isB m a b)
theorem isB_bst {m : Nat → Int32} {a b k : Nat} (h : isB m a b k) : k = bst m a b := by
  have h2 : isB m a b (bst m a b) := Classical.epsilon_spec (p := isB m a b) ⟨k, h⟩
  generalize bst m a b = k' at *
  obtain ⟨p1, p2, p3, p4⟩ := h
  obtain ⟨q1, q2, q3, q4⟩ := h2
  rcases Nat.lt_trichotomy k k' with c | c | c
  · have := q4 k c p2; have := p3 k' q1 q2; omega
  · exact c
  · have := p4 k' c q2; have := q3 k p1 p2; omega
/-- the best of the modes below i, or none yet -/
def isBi (m : Nat → Int32) (a b i k : Nat) : Prop := k < i ∧ mayB (0 < b / a) (0 < b % a) k ∧ (∀ j, j < i → mayB (0 < b / a) (0 < b % a) j → cN (res m a b k) 16 ≤ cN (res m a b j) 16) ∧ ∀ j, j < k → mayB (0 < b / a) (0 < b % a) j → cN (res m a b k) 16 < cN (res m a b j) 16
theorem isBi_skip {m : Nat → Int32} {a b i k : Nat} (h : isBi m a b i k) (hn : ¬ mayB (0 < b / a) (0 < b % a) i) : isBi m a b (i + 1) k :=
  ⟨by have := h.1; omega, h.2.1, fun j hj my => by
    rcases Nat.lt_or_ge j i with c | c
    · exact h.2.2.1 j c my
    · have : j = i := by omega
      subst this; exact absurd my hn, h.2.2.2⟩
theorem isBi_keep {m : Nat → Int32} {a b i k : Nat} (h : isBi m a b i k) (hn : cN (res m a b k) 16 ≤ cN (res m a b i) 16) : isBi m a b (i + 1) k :=
  ⟨by have := h.1; omega, h.2.1, fun j hj my => by
    rcases Nat.lt_or_ge j i with c | c
    · exact h.2.2.1 j c my
    · have : j = i := by omega
      subst this; exact hn, h.2.2.2⟩
theorem isBi_new {m : Nat → Int32} {a b i k : Nat} (h : isBi m a b i k) (my : mayB (0 < b / a) (0 < b % a) i) (hn : ¬ cN (res m a b k) 16 ≤ cN (res m a b i) 16) : isBi m a b (i + 1) i :=
  ⟨by omega, my, fun j hj myj => by
    rcases Nat.lt_or_ge j i with c | c
    · have := h.2.2.1 j c myj; omega
    · have : j = i := by omega
      subst this; exact Nat.le_refl _, fun j hj myj => by have := h.2.2.1 j hj myj; omega⟩
theorem isBi_first {m : Nat → Int32} {a b i : Nat} (h : ∀ j, j < i → ¬ mayB (0 < b / a) (0 < b % a) j) (my : mayB (0 < b / a) (0 < b % a) i) : isBi m a b (i + 1) i :=
  ⟨by omega, my, fun j hj myj => by
    rcases Nat.lt_or_ge j i with c | c
    · exact absurd myj (h j c)
    · have : j = i := by omega
      subst this; exact Nat.le_refl _, fun j hj myj => absurd myj (h j hj)⟩
theorem none_skip {a b i : Nat} (h : ∀ j, j < i → ¬ mayB (0 < b / a) (0 < b % a) j) (hn : ¬ mayB (0 < b / a) (0 < b % a) i) : ∀ j, j < i + 1 → ¬ mayB (0 < b / a) (0 < b % a) j := fun j hj => by
  rcases Nat.lt_or_ge j i with c | c
  · exact h j c
  · have : j = i := by omega
    subst this; exact hn
theorem t_X1_foretell {a b mode : Nat} {m mt fl : Nat → Int32} {fm : Int32} {K : (Nat → Int32) → Prop} (hm : mode < 9) (hok : lnOk fl (lnP m a b) (0 < b / a) (0 < b % a)) (hmay : mayB (0 < b / a) (0 < b % a) mode) (hfm : fm = meanM m a b)
    (h : ∀ mt', (∀ i, i < 16 → mt' i = tol m a b mode i) → K mt') : wp_X1_foretell mt fm fl (nI mode) K := by
  subst hfm
  have key := loopS (fun n i g => wl_X1_foretell_2 (nI mode) (meanM m a b) fl K (fun (v2_6 : Int32) (mt_6 : (Nat → Int32)) => K mt_6) n (nI i) g) (fun i => lay4 mt 0 i (tol m a b mode)) 16 (fun n => ?_) (fun n i hi ih => ?_)
  · obtain ⟨k, hk⟩ := key
    refine ⟨k, ?_⟩
    rw [lay4_0] at hk
    exact hk
  · rw [wl_X1_foretell_2]; exact yes (by decide) (h _ (fun i hi => lay0_at _ _ _ hi))
  · rw [wl_X1_foretell_2, (i4 hi).1, (i4 hi).2]
    refine nay (nI_ge (a := i) (b := 16) hi (by decide)) (t_X2_guess hm (by omega) (by omega) hok hmay ⟨nI_in', fun x hx => ?_⟩)
    rw [hx, nI_1, jup_nI]
    have e := lay0_s mt i (tol m a b mode)
    unfold tol at e ih ⊢
    rw [e]; exact ih
theorem t_X1_bestMode {a d b : Nat} {px m mt fl : Nat → Int32} {fa ff fm : Int32} {K : Int32 → (Nat → Int32) → Prop} (hs : 1 ≤ a ∧ a ≤ 8 ∧ 1 ≤ d ∧ d ≤ 8) (hb : b < a * d) (hpx : ∀ i, i < 16 → px (atP a b i) = m (atP a b i)) (hokm : okM a d m)
    (hfa : fa = if 0 < b / a then 1 else 0) (hff : ff = if 0 < b % a then 1 else 0) (hok : lnOk fl (lnP m a b) (0 < b / a) (0 < b % a)) (hfm : fm = meanM m a b)
    (h : ∀ mt', isB m a b (bst m a b) → K (nI (bst m a b)) mt') : wp_X1_bestMode mt fa ff fm fl px (nI (4 * (b % a))) (nI (4 * (b / a))) K := by
  refine pk_loop (fun n i (s : Int32 × Int32 × (Nat → Int32)) => wl_X1_bestMode_9 (nI (4 * (b % a))) (nI (4 * (b / a))) fa ff fm fl px K (fun (v3_9 : Int32) (v4_9 : Int32) (v5_9 : Int32) (mt_9 : (Nat → Int32)) => K v3_9 mt_9) n s.1 s.2.1 (nI i) s.2.2)
    (fun i s => ((∀ j, j < i → ¬ mayB (0 < b / a) (0 < b % a) j) ∧ s.2.1 = 2147483647) ∨ ∃ k, isBi m a b i k ∧ s.1 = nI k ∧ s.2.1 = nI (cN (res m a b k) 16)) 9 0 (2, 2147483647, mt) (by decide) (Or.inl ⟨fun j hj => absurd hj (by omega), rfl⟩) (fun n s hI => ?_) (fun n i s hi hI ih => ?_)
  · rw [wl_X1_bestMode_9]
    refine yes (by decide) ?_
    rcases hI with ⟨hI, -⟩ | ⟨k, hk, h1, -⟩
    · exact absurd trivial (hI 2 (by decide))
    · have e := isB_bst hk
      rw [h1, e]
      subst e
      exact h _ hk
  · rw [wl_X1_bestMode_9]
    obtain ⟨v3, v4, mt0⟩ := s
    dsimp only at hI ⊢
    refine nay (nI_ge (a := i) (b := 9) hi (by decide)) (t_X2_mayUse hi hfa hff (fun my => ?_) (fun my => ?_))
    · unfold jn3
      refine nay (by decide) (t_X1_foretell hi hok my hfm (fun mt' ht => t_X1_sumOfSizes (r := res m a b i) hs hb (fun j hj => by rw [hpx j hj, ht j hj]; rfl) (res_bd hs hb hokm hi my) ?_))
      have hc := cN_le (res_bd hs hb hokm hi my) 16 (by decide)
      rcases hI with ⟨hI, h2⟩ | ⟨k, hk, h1, h2⟩
      · subst h2
        have e : (2147483647 : Int32) = nI 2147483647 := rfl
        rw [e, nI_le']
        refine nay (by omega) (fun x hx => ?_)
        rw [hx, nI_1]
        exact ih (nI i, nI _, mt') (Or.inr ⟨i, isBi_first hI my, rfl, rfl⟩)
      · subst h1 h2
        have hc2 := cN_le (res_bd hs hb hokm (by have := hk.1; omega) hk.2.1) 16 (by decide)
        rw [nI_le']
        refine ⟨fun c x hx => ?_, fun c x hx => ?_⟩
        · rw [hx, nI_1]
          exact ih (nI k, nI _, mt') (Or.inr ⟨k, isBi_keep hk c, rfl, rfl⟩)
        · rw [hx, nI_1]
          exact ih (nI i, nI _, mt') (Or.inr ⟨i, isBi_new hk my c, rfl, rfl⟩)
    · unfold jn3
      refine yes rfl (fun x hx => ?_)
      rw [hx, nI_1]
      rcases hI with ⟨hI, h2⟩ | ⟨k, hk, h1, h2⟩
      · exact ih (v3, v4, mt0) (Or.inl ⟨none_skip hI my, h2⟩)
      · exact ih (v3, v4, mt0) (Or.inr ⟨k, isBi_skip hk my, h1, h2⟩)
def pl (m : Nat → Int32) (a b mode q i : Nat) : Int32 := qz (FF (res m a b mode)) q i
theorem pl_bnd {a d b mode q : Nat} {m : Nat → Int32} (hs : 1 ≤ a ∧ a ≤ 8 ∧ 1 ≤ d ∧ d ≤ 8) (hb : b < a * d) (hq : q ≤ 51) (h : okM a d m) (hm : mode < 9) (hmay : mayB (0 < b / a) (0 < b % a) mode) (i : Nat) (hi : i < 16) : bnd 4095 (pl m a b mode q i) :=
  lev_bnd hq (FF_bd (res_bd hs hb h hm hmay) _ (oT_lt i hi))
theorem t_X1_packBlock {a d b q : Nat} {px m mt tc lm lv fl : Nat → Int32} {fa ff fm : Int32} {K : (Nat → Int32) → Int32 → Int32 → Int32 → (Nat → Int32) → (Nat → Int32) → (Nat → Int32) → (Nat → Int32) → (Nat → Int32) → Prop} (hs : 1 ≤ a ∧ a ≤ 8 ∧ 1 ≤ d ∧ d ≤ 8) (hb : b < a * d) (hq : q ≤ 51) (hp : rPic a d px m)
    (h : ∀ mt' fa' ff' fm' fl' tc', isB m a b (bst m a b) → K mt' fa' ff' fm' fl' (wr px a b (rb m a b (bst m a b) (pl m a b (bst m a b) q) q) 16) tc' (upd lm b (nI (bst m a b))) (lay4 lv (16 * b) 16 (pl m a b (bst m a b) q))) :
    wp_X1_packBlock mt fa ff fm fl (nI a) px tc (nI q) lm lv (nI b) K := by
  obtain ⟨h1, h2, h3⟩ := blk hs hb
  have ha : 1 ≤ a ∧ a ≤ 8 := ⟨hs.1, hs.2.1⟩
  have hokm := okM_of hp
  have hpx : ∀ i, i < 16 → px (atP a b i) = m (atP a b i) := fun i hi => by
    unfold atP; exact (hp _ _ (by omega) (by omega)).1
  unfold wp_X1_packBlock wp_X3_leftOf wp_X3_topOf
  have e16 : (16 * nI b : Int32) = nI (16 * b) := pk_mul 16 b
  rw [nr ha h3, nd ha h3, ix4, ix4, e16]
  refine ⟨nne ha, nne ha, t_X2_lookAround hs hb (rnd_pic hs hb hp) (fun fa' ff' fl' q1 q2 q3 => t_X1_bestMode hs hb hpx hokm q1 q2 q3 rfl (fun mt4 hB => ?_))⟩
  refine t_X1_foretell hB.1 q3 hB.2.1 rfl (fun mt5 ht => ?_)
  have hbd := res_bd hs hb hokm hB.1 hB.2.1
  have fin : ∀ tc0 : Nat → Int32, agr tc0 (res m a b (bst m a b)) → vp_in (nI b) 64 ∧ wp_X8_forth tc0 lv (nI (16 * b)) (nI q) (fun (tc_14 : (Nat → Int32)) (lv_14 : (Nat → Int32)) => wp_X1_comeBack mt5 (nI a) px tc_14 (nI q) lv_14 (nI b) (fun (px_15 : (Nat → Int32)) (tc_15 : (Nat → Int32)) => K mt5 fa' ff' (meanM m a b) fl' px_15 tc_15 (jup lm (nI b) (nI (bst m a b))) lv_14)) := by
    intro tc0 hag
    refine ⟨nI_in', t_X8_forth h3 hq (fun j hj => by rw [hag j hj]; exact hbd j hj) ?_⟩
    have e : lay4 lv (16 * b) 16 (qz (FF tc0) q) = lay4 lv (16 * b) 16 (pl m a b (bst m a b) q) := lay4_congr (fun i hi => by
      unfold pl qz
      rw [FF_agr hag _ (oT_lt i hi)])
    rw [e, jup_nI]
    exact t_X1_comeBack hs hb hq ht (fun i hi => lay4_at _ _ _ _ hi) (fun tc' => h mt5 fa' ff' _ fl' tc' hB)
  have key := loopS (fun n i g => wl_X1_packBlock_45 (nI (4 * (b % a))) (nI (4 * (b / a))) mt5 px K (fun (v6_11 : Int32) (tc_11 : (Nat → Int32)) => vp_in (nI b) 64 ∧ wp_X8_forth tc_11 lv (nI (16 * b)) (nI q) (fun (tc_14 : (Nat → Int32)) (lv_14 : (Nat → Int32)) => wp_X1_comeBack mt5 (nI a) px tc_14 (nI q) lv_14 (nI b) (fun (px_15 : (Nat → Int32)) (tc_15 : (Nat → Int32)) => K mt5 fa' ff' (meanM m a b) fl' px_15 tc_15 (jup lm (nI b) (nI (bst m a b))) lv_14))) n (nI i) g) (fun i => lay4 tc 0 i (res m a b (bst m a b))) 16 (fun n => ?_) (fun n i hi ih => ?_)
  · obtain ⟨k, hk⟩ := key
    refine ⟨k, ?_⟩
    rw [lay4_0] at hk
    exact hk
  · rw [wl_X1_packBlock_45]; exact yes (by decide) (fin _ (fun j hj => lay0_at _ _ _ hj))
  · rw [wl_X1_packBlock_45]
    refine nay (nI_ge (a := i) (b := 16) hi (by decide)) ?_
    unfold wp_X1_lessTold wp_X3_get
    rw [at_cls hi]
    refine ⟨nI_in' (h := ⟨at_lt hs hb hi, by decide⟩), nI_in', nI_in', fun x hx => ?_⟩
    rw [hx, nI_1, jat_nI px (by have := at_lt hs hb hi; omega), jat_nI mt5, hpx i hi, ht i hi, jup_nI (lay4 tc 0 i (res m a b (bst m a b)))]
    have e := lay0_s tc i (res m a b (bst m a b))
    have e3 : res m a b (bst m a b) i = m (atP a b i) - tol m a b (bst m a b) i := rfl
    rw [← e3, e]; exact ih
theorem t_X1_unpackBlock {a d b q mode : Nat} {px m mt tc lm lv l fl : Nat → Int32} {fa ff fm : Int32} {K : (Nat → Int32) → Int32 → Int32 → Int32 → (Nat → Int32) → (Nat → Int32) → (Nat → Int32) → Prop} (hs : 1 ≤ a ∧ a ≤ 8 ∧ 1 ≤ d ∧ d ≤ 8) (hb : b < a * d) (hq : q ≤ 51) (hr : rnd a b px m) (hmd : lm b = nI mode) (hm : mode < 9) (hmay : mayB (0 < b / a) (0 < b % a) mode) (hl : ∀ i, i < 16 → lv (16 * b + i) = l i)
    (h : ∀ mt' fa' ff' fm' fl' tc', K mt' fa' ff' fm' fl' (wr px a b (rb m a b mode l q) 16) tc') :
    wp_X1_unpackBlock mt fa ff fm fl (nI a) px tc (nI q) lm lv (nI b) K := by
  obtain ⟨h1, h2, h3⟩ := blk hs hb
  unfold wp_X1_unpackBlock
  refine t_X2_lookAround hs hb hr (fun fa' ff' fl' q1 q2 q3 => ⟨nI_in', ?_⟩)
  rw [jat_nI, hmd]
  exact t_X1_foretell hm q3 hmay rfl (fun mt5 ht => t_X1_comeBack hs hb hq ht hl (fun tc' => h mt5 fa' ff' _ fl' tc'))
/-! the model's side -/
theorem t_X10_goForth {a d b q mode : Nat} {m g mcoe mwk : Nat → Int32} {K : (Nat → Int32) → (Nat → Int32) → Prop} (hs : 1 ≤ a ∧ a ≤ 8 ∧ 1 ≤ d ∧ d ≤ 8) (hb : b < a * d) (hq : q ≤ 51) (hokm : okM a d m) (hg : ∀ i, i < 16 → g (atP a b i) = m (atP a b i)) (hm : mode < 9) (hmay : mayB (0 < b / a) (0 < b % a) mode)
    (h : ∀ mwk', K (lay4 mcoe (16 * b) 16 (pl m a b mode q)) mwk') : wp_X10_goForth (nI a) m g mcoe mwk (nI b) (nI mode) (nI q) K := by
  obtain ⟨h1, h2, h3⟩ := blk hs hb
  have hbd := res_bd hs hb hokm hm hmay
  have fin : ∀ tc0 : Nat → Int32, agr tc0 (res m a b mode) → ∃ k : Nat, wl_X10_goForth_54 K (fun (v4_11 : Int32) (mwk_11 : (Nat → Int32)) => ∃ k : Nat, wl_X10_goForth_78  K (fun (v4_15 : Int32) (mwk_15 : (Nat → Int32)) => ∃ k : Nat, wl_X10_goForth_104 (nI q) K (fun (v4_19 : Int32) (v5_19 : Int32) => ∃ k : Nat, wl_X10_goForth_128 (nI b) (nI q) v4_19 mwk_15 K (fun (v5_33 : Int32) (mcoe_33 : (Nat → Int32)) => K mcoe_33 mwk_15) k 0 mcoe) k 32768 0) k 0 mwk_11) k 0 tc0 := by
    intro tc0 hag
    refine t_X10_goForth_54 (fun _ => t_X10_goForth_78 (fun _ => t_X10_goForth_104 hq (fun _ => t_X10_goForth_128 h3 hq (FF_bd (fun j hj => by rw [hag j hj]; exact hbd j hj)) (fun _ => ?_))))
    have e : lay4 mcoe (16 * b) 16 (qz (FF tc0) q) = lay4 mcoe (16 * b) 16 (pl m a b mode q) := lay4_congr (fun i hi => by
      unfold pl qz
      rw [FF_agr hag _ (oT_lt i hi)])
    show K (lay4 mcoe (16 * b) 16 (qz (FF tc0) q)) (FF tc0)
    rw [e]; exact h _
  have key := loopS (fun n i f => wl_X10_goForth_3 (nI b) (nI mode) (nI a) m g K (fun (v4_7 : Int32) (mwk_7 : (Nat → Int32)) => ∃ k : Nat, wl_X10_goForth_54  K (fun (v4_11 : Int32) (mwk_11 : (Nat → Int32)) => ∃ k : Nat, wl_X10_goForth_78  K (fun (v4_15 : Int32) (mwk_15 : (Nat → Int32)) => ∃ k : Nat, wl_X10_goForth_104 (nI q) K (fun (v4_19 : Int32) (v5_19 : Int32) => ∃ k : Nat, wl_X10_goForth_128 (nI b) (nI q) v4_19 mwk_15 K (fun (v5_33 : Int32) (mcoe_33 : (Nat → Int32)) => K mcoe_33 mwk_15) k 0 mcoe) k 32768 0) k 0 mwk_11) k 0 mwk_7) n (nI i) f) (fun i => lay4 mwk 0 i (res m a b mode)) 16 (fun n => ?_) (fun n i hi ih => ?_)
  · obtain ⟨k, hk⟩ := key
    refine ⟨k, ?_⟩
    rw [lay4_0] at hk
    exact hk
  · rw [wl_X10_goForth_3]; exact yes (by decide) (fin _ (fun j hj => lay0_at _ _ _ hj))
  · rw [wl_X10_goForth_3]
    refine nay (nI_ge (a := i) (b := 16) hi (by decide)) (t_X10_givenAt hs hb hi ?_)
    rw [(i4 hi).1, (i4 hi).2, hg i hi]
    refine t_X10_told hs hb hm (by omega) (by omega) hmay ⟨nI_in', fun x hx => ?_⟩
    rw [hx, nI_1, jup_nI]
    have e := lay0_s mwk i (res m a b mode)
    have e3 : res m a b mode i = m (atP a b i) - toldP (lnP m a b) (meanM m a b) mode ((i % 4 : Nat) : Int) ((i / 4 : Nat) : Int) := rfl
    rw [← e3, e]; exact ih
theorem t_X10_pack_133 {a d b : Nat} {m g : Nat → Int32} {K : Int32 → Int32 → Int32 → Int32 → Int32 → Int32 → (Nat → Int32) → (Nat → Int32) → (Nat → Int32) → (Nat → Int32) → (Nat → Int32) → (Nat → Int32) → Prop} {X : Int32 → Int32 → Prop} (hs : 1 ≤ a ∧ a ≤ 8 ∧ 1 ≤ d ∧ d ≤ 8) (hb : b < a * d) (hokm : okM a d m) (hg : ∀ i, i < 16 → g (atP a b i) = m (atP a b i))
    (h : ∀ v, isB m a b (bst m a b) → X (nI (bst m a b)) v) : ∃ k, wl_X10_pack_133 (nI b) (nI a) m g K X k (-1) 0 := by
  obtain ⟨h1, h2, h3⟩ := blk hs hb
  have ha : 1 ≤ a ∧ a ≤ 8 := ⟨hs.1, hs.2.1⟩
  refine pk_loop (fun n i (s : Int32) => wl_X10_pack_133 (nI b) (nI a) m g K X n s (nI i))
    (fun i s => ((∀ j, j < i → ¬ mayB (0 < b / a) (0 < b % a) j) ∧ s = -1) ∨ ∃ k, isBi m a b i k ∧ s = nI k) 9 0 (-1) (by decide) (Or.inl ⟨fun j hj => absurd hj (by omega), rfl⟩) (fun n s hI => ?_) (fun n i s hi hI ih => ?_)
  · rw [wl_X10_pack_133]
    refine yes (by decide) ?_
    rcases hI with ⟨hI, -⟩ | ⟨k, hk, h1⟩
    · exact absurd trivial (hI 2 (by decide))
    · have e := isB_bst hk
      rw [h1, e]
      subst e
      exact h _ hk
  · rw [wl_X10_pack_133]
    unfold jn1 jn0
    refine nay (nI_ge (a := i) (b := 9) hi (by decide)) (t_X10_may ha h3 hi (fun my => ?_) (fun my => ?_))
    · refine nay (by decide) ?_
      rcases hI with ⟨hI, h2⟩ | ⟨k, hk, h1⟩
      · subst h2
        refine yes rfl (fun x hx => ?_)
        rw [hx, nI_1]
        exact ih (nI i) (Or.inr ⟨i, isBi_first hI my, rfl⟩)
      · subst h1
        have hk9 : k < 9 := by have := hk.1; omega
        have hc := cN_le (res_bd hs hb hokm hi my) 16 (by decide)
        have hc2 := cN_le (res_bd hs hb hokm hk9 hk.2.1) 16 (by decide)
        refine nay (nI_ne_m1 (by omega)) (t_X10_costOf hs hb hi my hg hokm (t_X10_costOf hs hb hk9 hk.2.1 hg hokm ?_))
        rw [nI_le']
        refine ⟨fun c x hx => ?_, fun c x hx => ?_⟩
        · rw [hx, nI_1]
          exact ih (nI k) (Or.inr ⟨k, isBi_keep hk c, rfl⟩)
        · rw [hx, nI_1]
          exact ih (nI i) (Or.inr ⟨i, isBi_new hk my c, rfl⟩)
    · refine yes rfl (fun x hx => ?_)
      rw [hx, nI_1]
      rcases hI with ⟨hI, h2⟩ | ⟨k, hk, h1⟩
      · exact ih s (Or.inl ⟨none_skip hI my, h2⟩)
      · exact ih s (Or.inr ⟨k, isBi_skip hk my, h1⟩)
