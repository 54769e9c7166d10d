/-! bits written -/
def pvf (g : Nat → Nat) : Nat → Nat
  | 0 => 0
  | r + 1 => 2 * pvf g r + g r
theorem pvf_congr {g g' : Nat → Nat} : ∀ r, (∀ t, t < r → g t = g' t) → pvf g r = pvf g' r
  | 0, _ => rfl
  | r + 1, h => by
    show 2 * pvf g r + g r = 2 * pvf g' r + g' r
    rw [pvf_congr r (fun t ht => h t (by omega)), h r (by omega)]
theorem pvf_lt {g : Nat → Nat} : ∀ r, (∀ t, t < r → g t ≤ 1) → pvf g r < 2 ^ r
  | 0, _ => Nat.zero_lt_one
  | r + 1, h => by
    have h1 := pvf_lt r (fun t ht => h t (by omega))
    have h2 := h r (by omega)
    show 2 * pvf g r + g r < 2 ^ (r + 1)
    rw [Nat.pow_succ]; omega
theorem pvf_put {g g' : Nat → Nat} {u x : Nat} (h0 : g u = 0) (h1 : g' u = x) (he : ∀ t, t ≠ u → g' t = g t) : ∀ r, u < r → pvf g' r = pvf g r + x * 2 ^ (r - 1 - u)
  | 0, hr => absurd hr (by omega)
  | r + 1, hr => by
    show 2 * pvf g' r + g' r = 2 * pvf g r + g r + x * 2 ^ (r + 1 - 1 - u)
    by_cases c : u = r
    · subst c
      have e : u + 1 - 1 - u = 0 := by omega
      rw [pvf_congr (g := g') (g' := g) u (fun t ht => he t (by omega)), h0, h1, e]; omega
    · rw [pvf_put h0 h1 he r (by omega), he r (by omega)]
      have e : r + 1 - 1 - u = (r - 1 - u) + 1 := by omega
      rw [e, Nat.pow_succ]
      generalize 2 ^ (r - 1 - u) = P
      rw [← Nat.mul_assoc]; omega
theorem gD_lt {bs : List Nat} {x i : Nat} (h : i < bs.length) : (bs ++ [x]).getD i 0 = bs.getD i 0 := by
  simp [List.getD_eq_getElem?_getD, List.getElem?_append, h]
theorem gD_eq {bs : List Nat} {x : Nat} : (bs ++ [x]).getD bs.length 0 = x := by
  simp [List.getD_eq_getElem?_getD]
theorem gD_ge {bs : List Nat} {i : Nat} (h : bs.length ≤ i) : bs.getD i 0 = 0 := by
  simp [List.getD_eq_getElem?_getD, h]
theorem gD_le {bs : List Nat} (h : ∀ x, x ∈ bs → x ≤ 1) (i : Nat) : bs.getD i 0 ≤ 1 := by
  rcases Nat.lt_or_ge i bs.length with c | c
  · have : bs.getD i 0 = bs[i] := by simp [List.getD_eq_getElem?_getD, c]
    rw [this]; exact h _ (List.getElem_mem c)
  · rw [gD_ge c]; omega
def byt (bs : List Nat) (k r : Nat) : Nat := pvf (fun t => bs.getD (8 * k + t) 0) r
theorem byt_lt {bs : List Nat} (h : ∀ x, x ∈ bs → x ≤ 1) (k r : Nat) : byt bs k r < 2 ^ r := pvf_lt r (fun t _ => gD_le h _)
def RepC (bs : List Nat) (wo wb sc : Int32) (sb : Nat → Int32) : Prop := sc = nI (bs.length / 8) ∧ wb = nI (bs.length % 8) ∧ wo = nI (byt bs (bs.length / 8) (bs.length % 8)) ∧ (∀ k, k < bs.length / 8 → sb k &&& 255 = nI (byt bs k 8)) ∧ ∀ x, x ∈ bs → x ≤ 1
def RepM (bs : List Nat) (mat : Int32) (mby : Nat → Int32) : Prop := mat = nI bs.length ∧ (∀ k, 8 * k < bs.length → mby k = nI (byt bs k 8)) ∧ ∀ x, x ∈ bs → x ≤ 1
theorem mem1 {bs : List Nat} {x : Nat} (h : ∀ x, x ∈ bs → x ≤ 1) (hx : x ≤ 1) : ∀ y, y ∈ bs ++ [x] → y ≤ 1 := by
  intro y hy
  rcases List.mem_append.mp hy with c | c
  · exact h y c
  · rw [List.mem_singleton.mp c]; exact hx
theorem c_bit {bs : List Nat} {x : Nat} {wo wb sc : Int32} {sb : Nat → Int32} {J : Int32 → Int32 → Int32 → (Nat → Int32) → Prop} (hx : x ≤ 1) (hl : bs.length < 63999) (hR : RepC bs wo wb sc sb) (hJ : ∀ wo' wb' sc' sb', RepC (bs ++ [x]) wo' wb' sc' sb' → J wo' wb' sc' sb') :
    ((wb + 1) = 8 → wp_X7_add sc sb ((2 * wo) + nI x) (fun (sc_8 : Int32) (sb_8 : (Nat → Int32)) => J 0 0 sc_8 sb_8)) ∧ (¬ (wb + 1) = 8 → J ((2 * wo) + nI x) (wb + 1) sc sb) := by
  obtain ⟨rfl, rfl, rfl, h4, h5⟩ := hR
  have hlen : (bs ++ [x]).length = bs.length + 1 := by simp
  have e8 : (8 : Int32) = nI 8 := rfl
  have e2 : (2 : Int32) = nI 2 := rfl
  have hm := mem1 h5 hx
  have hold : ∀ k, k < bs.length / 8 → byt (bs ++ [x]) k 8 = byt bs k 8 := fun k hk => pvf_congr 8 (fun t ht => gD_lt (by omega))
  have hnew : 2 * byt bs (bs.length / 8) (bs.length % 8) + x = byt (bs ++ [x]) (bs.length / 8) (bs.length % 8 + 1) := by
    show _ = 2 * pvf _ _ + (bs ++ [x]).getD (8 * (bs.length / 8) + bs.length % 8) 0
    rw [Nat.div_add_mod, gD_eq]
    congr 2
    exact (pvf_congr _ (fun t ht => gD_lt (by omega))).symm
  rw [nI_1, e8, e2, pk_mul, nI_add, hnew, nI_eq']
  refine ⟨fun c => ?_, fun c => ?_⟩
  · unfold wp_X7_add wp_X7_set
    refine ⟨fun q => absurd q (nI_ge (a := bs.length / 8) (b := 8000) (by omega) (by decide)), fun _ => ⟨nI_in', ?_⟩⟩
    rw [nI_1, jupb_nI, i8_idem]
    refine hJ _ _ _ _ ⟨by rw [hlen]; congr 1; omega, by rw [hlen]; have : (bs.length + 1) % 8 = 0 := by omega
                                                        rw [this]; rfl, ?_, fun k hk => ?_, hm⟩
    · rw [hlen]
      have : (bs.length + 1) % 8 = 0 := by omega
      rw [this]; rfl
    · rw [hlen] at hk
      rw [upd_if]
      have hb := byt_lt hm (bs.length / 8) 8
      split
      · next e =>
        rw [bp_b8, e, c]
        exact pOk_and ⟨_, by omega, rfl⟩
      · next e =>
        rw [hold k (by omega)]
        exact h4 k (by omega)
  · refine hJ _ _ _ _ ⟨by rw [hlen]; congr 1; omega, by rw [hlen]; congr 1; omega, ?_, fun k hk => ?_, hm⟩
    · rw [hlen]
      have q1 : (bs.length + 1) / 8 = bs.length / 8 := by omega
      have q2 : (bs.length + 1) % 8 = bs.length % 8 + 1 := by omega
      rw [q1, q2]
    · rw [hlen] at hk
      rw [hold k (by omega)]
      exact h4 k (by omega)
theorem m_bit {bs : List Nat} {x : Nat} {mat : Int32} {mby : Nat → Int32} {J : Int32 → (Nat → Int32) → Prop} (hx : x ≤ 1) (hl : bs.length < 63999) (hR : RepM bs mat mby) (hJ : ∀ mat' mby', RepM (bs ++ [x]) mat' mby' → J mat' mby') :
    ((jrem mat 8) = 0 → vp_in (mat / 8) 8000 ∧ (vp_in (mat / 8) 8000 ∧ vp_in (mat / 8) 8000 ∧ J (mat + 1) (jup (jup mby (mat / 8) 0) (mat / 8) ((jat (jup mby (mat / 8) 0) (mat / 8)) + (nI x <<< ((7 - (jrem mat 8)) &&& 31)))))) ∧ (¬ (jrem mat 8) = 0 → (vp_in (mat / 8) 8000 ∧ vp_in (mat / 8) 8000 ∧ J (mat + 1) (jup mby (mat / 8) ((jat mby (mat / 8)) + (nI x <<< ((7 - (jrem mat 8)) &&& 31)))))) := by
  obtain ⟨rfl, h4, h5⟩ := hR
  have hlen : (bs ++ [x]).length = bs.length + 1 := by simp
  have e8 : (8 : Int32) = nI 8 := rfl
  have e7 : (7 : Int32) = nI 7 := rfl
  have e0 : (0 : Int32) = nI 0 := rfl
  have hm := mem1 h5 hx
  have hold : ∀ k, k < bs.length / 8 → byt (bs ++ [x]) k 8 = byt bs k 8 := fun k hk => pvf_congr 8 (fun t ht => gD_lt (by omega))
  have hnew : byt (bs ++ [x]) (bs.length / 8) 8 = byt bs (bs.length / 8) 8 + x * 2 ^ (7 - bs.length % 8) := by
    have hp := pvf_put (g := fun t => bs.getD (8 * (bs.length / 8) + t) 0) (g' := fun t => (bs ++ [x]).getD (8 * (bs.length / 8) + t) 0) (u := bs.length % 8) (x := x) (gD_ge (by omega)) (by rw [Nat.div_add_mod, gD_eq]) (fun t ht => ?_) 8 (by omega)
    · have e : 8 - 1 - bs.length % 8 = 7 - bs.length % 8 := by omega
      rw [e] at hp
      exact hp
    · rcases Nat.lt_or_ge (8 * (bs.length / 8) + t) bs.length with c | c
      · exact gD_lt c
      · rw [gD_ge c, gD_ge (by rw [hlen]; omega)]
  have hpow : x * 2 ^ (7 - bs.length % 8) ≤ 128 := by
    have h1 : 2 ^ (7 - bs.length % 8) ≤ 2 ^ 7 := Nat.pow_le_pow_right (by decide) (by omega)
    have := Nat.mul_le_mul hx h1
    omega
  rw [e8, nI_rem', nI_div', e7, nI_sub' (by omega), pk_shlN _ _ (sh31 _ (by omega)) (by omega), nI_1, jup_nI, jup_nI, jup_nI, jat_nI, jat_nI, e0, nI_eq']
  refine ⟨fun c => ⟨nI_in', nI_in', nI_in', hJ _ _ ⟨by rw [hlen], fun k hk => ?_, hm⟩⟩, fun c => ⟨nI_in', nI_in', hJ _ _ ⟨by rw [hlen], fun k hk => ?_, hm⟩⟩⟩
  · rw [hlen] at hk
    rw [upd_if]
    split
    · next e =>
      rw [upd_s, e, hnew, nI_add]
      congr 1
      have : byt bs (bs.length / 8) 8 = 0 := by
        have : ∀ r, pvf (fun t => bs.getD (8 * (bs.length / 8) + t) 0) r = 0 := by
          intro r
          induction r with
          | zero => rfl
          | succ r ih =>
            show 2 * pvf _ r + bs.getD (8 * (bs.length / 8) + r) 0 = 0
            rw [ih, gD_ge (by omega)]
        exact this 8
      omega
    · next e =>
      rw [upd_n _ _ e, hold k (by omega)]
      exact h4 k (by omega)
  · rw [hlen] at hk
    rw [upd_if]
    split
    · next e =>
      rw [h4 _ (by omega), e, hnew, nI_add]
    · next e =>
      rw [hold k (by omega)]
      exact h4 k (by omega)
/-- a number's bits, from the highest -/
def wB (v : Nat) : Nat → List Nat
  | 0 => []
  | n + 1 => (v / 2 ^ n % 2) :: wB v n
theorem wB_len (v : Nat) : ∀ n, (wB v n).length = n
  | 0 => rfl
  | n + 1 => by show (wB v n).length + 1 = n + 1; rw [wB_len v n]
theorem bit_n {V t : Nat} (hV : V < 2147483648) (ht : t < 32) : (nI V >>> (nI t &&& 31)) &&& 1 = nI (V / 2 ^ t % 2) := by
  rw [pk_shrN (by omega) _ _ (sh31 t ht)]
  have := pk_andN (n := V / 2 ^ t) (Nat.lt_of_le_of_lt (Nat.div_le_self _ _) (by omega)) (m := 1) 1 (by decide)
  rw [this]
theorem dec_n (k : Nat) : nI k + (-1) = nI k - 1 := by
  have : (-1 : Int32) = -(1 : Int32) := rfl
  rw [this, Int32.sub_eq_add_neg]
theorem t_X6_wB {V : Nat} {K : Int32 → Int32 → Int32 → (Nat → Int32) → Prop} {X : Int32 → Int32 → Int32 → Int32 → (Nat → Int32) → Prop} (hV : V < 2147483648) :
    ∀ (k n : Nat) (bs : List Nat) (wo wb sc : Int32) (sb : Nat → Int32), k < n → k < 32 → bs.length + k < 63999 → RepC bs wo wb sc sb → (∀ v wo' wb' sc' sb', RepC (bs ++ wB V k) wo' wb' sc' sb' → X v wo' wb' sc' sb') → wl_X6_writeBits_4 (nI V) K X n (nI k - 1) wo wb sc sb := by
  intro k
  induction k with
  | zero =>
    intro n bs wo wb sc sb hn _ hl hR hX
    obtain ⟨n, rfl⟩ : ∃ j, n = j + 1 := ⟨n - 1, by omega⟩
    rw [wl_X6_writeBits_4]
    refine yes (by decide) (hX _ _ _ _ _ ?_)
    show RepC (bs ++ []) _ _ _ _
    rw [List.append_nil]; exact hR
  | succ k ih =>
    intro n bs wo wb sc sb hn hk hl hR hX
    obtain ⟨n, rfl⟩ : ∃ j, n = j + 1 := ⟨n - 1, by omega⟩
    rw [wl_X6_writeBits_4, nI_pred]
    refine nay (nI_pos (by omega)) ?_
    unfold jn4
    rw [bit_n hV (by omega)]
    have key := c_bit (x := V / 2 ^ k % 2) (J := fun wo' wb' sc' sb' => ∀ x3_6 : Int32, x3_6 = nI k + (-1) → wl_X6_writeBits_4 (nI V) K X n x3_6 wo' wb' sc' sb') (by omega) (by omega) hR (fun wo' wb' sc' sb' hR' x hx => ?_)
    · exact key
    · rw [hx, dec_n]
      refine ih n _ _ _ _ _ (by omega) (by omega) (by simp; omega) hR' (fun v wo2 wb2 sc2 sb2 h2 => hX v _ _ _ _ ?_)
      rw [List.append_assoc] at h2
      exact h2
theorem t_X6_writeBits {V k : Nat} {bs : List Nat} {wo wb sc : Int32} {sb : Nat → Int32} {K : Int32 → Int32 → Int32 → (Nat → Int32) → Prop} (hV : V < 2147483648) (hk : k < 32) (hl : bs.length + k < 63999) (hR : RepC bs wo wb sc sb) (h : ∀ wo' wb' sc' sb', RepC (bs ++ wB V k) wo' wb' sc' sb' → K wo' wb' sc' sb') : wp_X6_writeBits wo wb sc sb (nI V) (nI k) K := by
  intro x hx
  rw [hx]
  exact ⟨k + 1, t_X6_wB hV k (k + 1) bs wo wb sc sb (by omega) hk hl hR (fun _ wo' wb' sc' sb' => h wo' wb' sc' sb')⟩
theorem t_X10_wB {V : Nat} {K : Int32 → (Nat → Int32) → Prop} {X : Int32 → Int32 → (Nat → Int32) → Prop} (hV : V < 2147483648) :
    ∀ (k n : Nat) (bs : List Nat) (mat : Int32) (mby : Nat → Int32), k < n → k < 32 → bs.length + k < 63999 → RepM bs mat mby → (∀ v mat' mby', RepM (bs ++ wB V k) mat' mby' → X v mat' mby') → wl_X10_write_4 (nI V) K X n (nI k - 1) mat mby := by
  intro k
  induction k with
  | zero =>
    intro n bs mat mby hn _ hl hR hX
    obtain ⟨n, rfl⟩ : ∃ j, n = j + 1 := ⟨n - 1, by omega⟩
    rw [wl_X10_write_4]
    refine yes (by decide) (hX _ _ _ ?_)
    show RepM (bs ++ []) _ _
    rw [List.append_nil]; exact hR
  | succ k ih =>
    intro n bs mat mby hn hk hl hR hX
    obtain ⟨n, rfl⟩ : ∃ j, n = j + 1 := ⟨n - 1, by omega⟩
    rw [wl_X10_write_4, nI_pred]
    refine nay (nI_pos (by omega)) ?_
    unfold jn1
    rw [bit_n hV (by omega)]
    have key := m_bit (x := V / 2 ^ k % 2) (J := fun mat' mby' => ∀ x3_8 : Int32, x3_8 = nI k + (-1) → wl_X10_write_4 (nI V) K X n x3_8 mat' mby') (by omega) (by omega) hR (fun mat' mby' hR' x hx => ?_)
    · exact key
    · rw [hx, dec_n]
      refine ih n _ _ _ (by omega) (by omega) (by simp; omega) hR' (fun v mat2 mby2 h2 => hX v _ _ ?_)
      rw [List.append_assoc] at h2
      exact h2
theorem t_X10_write {V k : Nat} {bs : List Nat} {mat : Int32} {mby : Nat → Int32} {K : Int32 → (Nat → Int32) → Prop} (hV : V < 2147483648) (hk : k < 32) (hl : bs.length + k < 63999) (hR : RepM bs mat mby) (h : ∀ mat' mby', RepM (bs ++ wB V k) mat' mby' → K mat' mby') : wp_X10_write mat mby (nI V) (nI k) K := by
  intro x hx
  rw [hx]
  exact ⟨k + 1, t_X10_wB hV k (k + 1) bs mat mby (by omega) hk hl hR (fun _ mat' mby' => h mat' mby')⟩
/-! whole numbers -/
def lgN (V : Nat) : Nat := Nat.log2 (V + 1)
theorem lgN_le {V k : Nat} : k ≤ lgN V ↔ 2 ^ k ≤ V + 1 := Nat.le_log2 (by omega)
theorem lgN_lt {V k : Nat} : lgN V < k ↔ V + 1 < 2 ^ k := Nat.log2_lt (by omega)
def wU (V : Nat) : List Nat := wB 0 (lgN V) ++ wB (V + 1) (lgN V + 1)
theorem lgN_13 {V : Nat} (h : V ≤ 8190) : lgN V < 13 := lgN_lt.mpr (by omega)
theorem wU_len {V : Nat} (h : V ≤ 8190) : (wU V).length ≤ 27 := by
  have := lgN_13 h
  unfold wU
  rw [List.length_append, wB_len, wB_len]; omega
theorem t_X6_writeNumber {V : Nat} {bs : List Nat} {wo wb sc : Int32} {sb : Nat → Int32} {K : Int32 → Int32 → Int32 → (Nat → Int32) → Prop} (hV : V ≤ 8190) (hl : bs.length + 27 < 63999) (hR : RepC bs wo wb sc sb) (h : ∀ wo' wb' sc' sb', RepC (bs ++ wU V) wo' wb' sc' sb' → K wo' wb' sc' sb') : wp_X6_writeNumber wo wb sc sb (nI V) K := by
  have h13 := lgN_13 hV
  refine pk_loop (fun n i (_ : Unit) => wl_X6_writeNumber_2 (nI V) K (fun (v2_4 : Int32) => wp_X6_writeBits wo wb sc sb 0 v2_4 (fun (wo_5 : Int32) (wb_5 : Int32) (sc_5 : Int32) (sb_5 : (Nat → Int32)) => wp_X6_writeBits wo_5 wb_5 sc_5 sb_5 (nI V + 1) (v2_4 + 1) (fun (wo_6 : Int32) (wb_6 : Int32) (sc_6 : Int32) (sb_6 : (Nat → Int32)) => K wo_6 wb_6 sc_6 sb_6))) n (nI i)) (fun _ _ => True) (lgN V) 0 () (by omega) trivial (fun n _ _ => ?_) (fun n i _ hi _ ih => ?_)
  · rw [wl_X6_writeNumber_2]
    refine nay (nI_ge (a := lgN V) (b := 15) (by omega) (by decide)) (yes ?_ ?_)
    · rw [nI_1, nI_1, pk_shrN (by omega) _ _ (sh31 _ (by omega))]
      have : (V + 1) / 2 ^ (lgN V + 1) = 0 := Nat.div_eq_of_lt (lgN_lt.mp (by omega))
      rw [this]; rfl
    · rw [nI_1, nI_1]
      refine t_X6_writeBits (V := 0) (by decide) (by omega) (by omega) hR (fun wo1 wb1 sc1 sb1 h1 => t_X6_writeBits (by omega) (by omega) (by rw [List.length_append, wB_len]; omega) h1 (fun wo2 wb2 sc2 sb2 h2 => h _ _ _ _ ?_))
      rw [List.append_assoc] at h2
      exact h2
  · rw [wl_X6_writeNumber_2]
    refine nay (nI_ge (a := i) (b := 15) (by omega) (by decide)) (nay ?_ (fun x hx => ?_))
    · rw [nI_1, nI_1, pk_shrN (by omega) _ _ (sh31 _ (by omega))]
      have h1 : 2 ^ (i + 1) ≤ V + 1 := lgN_le.mp (by omega)
      have h2 : 0 < (V + 1) / 2 ^ (i + 1) := Nat.div_pos h1 (Nat.two_pow_pos _)
      have h3 : (V + 1) / 2 ^ (i + 1) ≤ V + 1 := Nat.div_le_self _ _
      exact nI_ne0' (by omega)
    · rw [hx, nI_1 i]; exact ih () trivial
theorem wB_low {v g : Nat} : ∀ n, n ≤ g → wB (v + 2 ^ g) n = wB v n
  | 0, _ => rfl
  | n + 1, h => by
    show ((v + 2 ^ g) / 2 ^ n % 2) :: wB (v + 2 ^ g) n = (v / 2 ^ n % 2) :: wB v n
    rw [wB_low n (by omega)]
    congr 1
    have e : 2 ^ g = 2 ^ n * (2 * 2 ^ (g - n - 1)) := by
      have e1 : g = n + (1 + (g - n - 1)) := by omega
      conv => lhs; rw [e1, Nat.pow_add, Nat.pow_add]
    rw [e, Nat.add_mul_div_left _ _ (Nat.two_pow_pos n)]; omega
theorem wU_mod (V : Nat) : wU V = wB 0 (lgN V) ++ wB 1 1 ++ wB (V + 1 - 2 ^ lgN V) (lgN V) := by
  have h1 : 2 ^ lgN V ≤ V + 1 := lgN_le.mp (Nat.le_refl _)
  have h2 : V + 1 < 2 ^ (lgN V + 1) := lgN_lt.mp (by omega)
  unfold wU
  rw [List.append_assoc]
  congr 1
  show ((V + 1) / 2 ^ lgN V % 2) :: wB (V + 1) (lgN V) = 1 :: wB (V + 1 - 2 ^ lgN V) (lgN V)
  have e1 : (V + 1) / 2 ^ lgN V = 1 := by
    rw [Nat.pow_succ] at h2
    exact Nat.div_eq_of_lt_le (by omega) (by omega)
  rw [e1]
  have e2 := wB_low (v := V + 1 - 2 ^ lgN V) (g := lgN V) (lgN V) (Nat.le_refl _)
  rw [Nat.sub_add_cancel h1] at e2
  rw [e2]
theorem t_X10_writeU {V : Nat} {bs : List Nat} {mat : Int32} {mby : Nat → Int32} {K : Int32 → (Nat → Int32) → Prop} (hV : V ≤ 8190) (hl : bs.length + 27 < 63999) (hR : RepM bs mat mby) (h : ∀ mat' mby', RepM (bs ++ wU V) mat' mby' → K mat' mby') : wp_X10_writeU mat mby (nI V) K := by
  have h13 := lgN_13 hV
  have e2 : (2 : Int32) = nI 2 := rfl
  have e1 : (1 : Int32) = nI 1 := rfl
  have pw : ∀ i, i < 13 → 2 ^ i ≤ 4096 := fun i hi => Nat.pow_le_pow_right (n := 2) (j := 12) (by decide) (by omega)
  have cond : ∀ i, i < 13 → (nI V < ((2 <<< (nI i &&& 31)) - 1) ↔ V + 1 < 2 ^ (i + 1)) := by
    intro i hi
    have hp := pw i hi
    have hp0 := Nat.two_pow_pos i
    rw [e2, pk_shlN _ _ (sh31 _ (by omega)) (by omega), e1, nI_sub' (by omega), nI_lt', Nat.pow_succ]; omega
  refine pk_loop (fun n i (_ : Unit) => wl_X10_writeU_2 (nI V) K (fun (v2_3 : Int32) => wp_X10_write mat mby 0 v2_3 (fun (mat_4 : Int32) (mby_4 : (Nat → Int32)) => wp_X10_write mat_4 mby_4 1 1 (fun (mat_5 : Int32) (mby_5 : (Nat → Int32)) => wp_X10_write mat_5 mby_5 ((nI V - (1 <<< (v2_3 &&& 31))) + 1) v2_3 (fun (mat_6 : Int32) (mby_6 : (Nat → Int32)) => K mat_6 mby_6)))) n (nI i)) (fun _ _ => True) (lgN V) 0 () (by omega) trivial (fun n _ _ => ?_) (fun n i _ hi _ ih => ?_)
  · rw [wl_X10_writeU_2, cond _ h13]
    refine yes (lgN_lt.mp (by omega)) ?_
    have hle : 2 ^ lgN V ≤ V + 1 := lgN_le.mp (Nat.le_refl _)
    have hp := pw _ h13
    have ev : (nI V - (1 <<< (nI (lgN V) &&& 31))) + 1 = nI (V + 1 - 2 ^ lgN V) := by
      rw [e1, pk_shlN _ _ (sh31 _ (by omega)) (by omega), Nat.one_mul, zI_nat, zI_nat, zI_nat, zI_nat, zI_sub, zI_add]
      congr 1; omega
    rw [ev]
    have hlt : V + 1 - 2 ^ lgN V < 2147483648 := Nat.lt_of_le_of_lt (Nat.sub_le _ _) (by omega)
    refine t_X10_write (V := 0) (by decide) (by omega) (by omega) hR (fun mat1 mby1 h1 => t_X10_write (V := 1) (k := 1) (by decide) (by omega) (by rw [List.length_append, wB_len]; omega) h1 (fun mat2 mby2 h2 => t_X10_write hlt (by omega) (by rw [List.length_append, List.length_append, wB_len, wB_len]; omega) h2 (fun mat3 mby3 h3 => h _ _ ?_)))
    rw [wU_mod]
    rw [List.append_assoc, List.append_assoc, ← List.append_assoc (wB 0 (lgN V))] at h3
    exact h3
  · rw [wl_X10_writeU_2, cond i (by omega)]
    have h1 : 2 ^ (i + 1) ≤ V + 1 := lgN_le.mp (by omega)
    refine nay (by omega) (fun x hx => ?_)
    rw [hx, nI_1]; exact ih () trivial
