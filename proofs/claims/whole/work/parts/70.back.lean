/-! back from levels to pixels -/
theorem shl_eq (x : Int32) {k : Nat} (hk : k < 32) : x <<< (nI k &&& 31) = x * nI (2 ^ k) := by
  refine Int32.toBitVec_inj.mp (BitVec.eq_of_toNat_eq ?_)
  rw [pk_shl _ _ k (sh31 k hk), Int32.toBitVec_mul, BitVec.toNat_mul]
  have e : (nI (2 ^ k)).toBitVec.toNat = 2 ^ k % 2 ^ 32 := rfl
  rw [e, Nat.mul_mod_mod]
def deq (l : Nat → Int32) (q i : Nat) : Int32 := (l i * nI (bTb (fac q (oT i)))) * nI (2 ^ (q / 6))
def dq (f l : Nat → Int32) (q : Nat) : Nat → Nat → Int32
  | 0 => f
  | i + 1 => upd (dq f l q i) (oT i) (deq l q i)
theorem dq_at (f l : Nat → Int32) (q : Nat) : ∀ i, i ≤ 16 → ∀ k, k < i → dq f l q i (oT k) = deq l q k
  | 0, _, k, hk => absurd hk (by omega)
  | i + 1, h, k, hk => by
    show upd (dq f l q i) (oT i) (deq l q i) (oT k) = _
    by_cases e : k = i
    · rw [e, upd_s]
    · rw [upd_n _ _ ?_, dq_at f l q i (by omega) k (by omega)]
      intro c
      have h1 := oT_oI
      have : ∀ x, x < 16 → ∀ y, y < 16 → oT x = oT y → x = y := by decide +kernel
      exact e (this k (by omega) i (by omega) c)
theorem dq_agr (f g l : Nat → Int32) (q : Nat) : agr (dq f l q 16) (dq g l q 16) := by
  intro j hj
  obtain ⟨h1, h2⟩ := oT_oI j hj
  rw [← h2, dq_at f l q 16 (by decide) _ h1, dq_at g l q 16 (by decide) _ h1]
theorem dq_bd {f l : Nat → Int32} {q : Nat} (hq : q ≤ 51) (hl : ∀ i, i < 16 → bnd 4095 (l i)) : bd 30401280 (dq f l q 16) := by
  intro j hj
  obtain ⟨h1, h2⟩ := oT_oI j hj
  rw [← h2, dq_at f l q 16 (by decide) _ h1]
  have h3 : 2 ^ (q / 6) ≤ 2 ^ 8 := Nat.pow_le_pow_right (by decide) (by omega)
  exact bnd_mul (M := 118755) (N := 256) (bnd_mul (M := 4095) (N := 29) (hl _ h1) (jm_Bk _ (fac_lt q _)).2 (by decide)) h3 (by decide)
theorem dq_l {f l l' : Nat → Int32} {q : Nat} (h : ∀ i, i < 16 → l i = l' i) : ∀ i, i ≤ 16 → dq f l q i = dq f l' q i
  | 0, _ => rfl
  | i + 1, hi => by
    show upd (dq f l q i) (oT i) (deq l q i) = upd (dq f l' q i) (oT i) (deq l' q i)
    unfold deq
    rw [dq_l h i (by omega), h i (by omega)]
def BB (f : Nat → Int32) : Nat → Int32 := stC backL (stR backL f 4) 4
theorem BB_agr {f g : Nat → Int32} (h : agr f g) : agr (BB f) (BB g) := stC_agr (fun _ _ _ _ => backL_agr) (stR_agr (fun _ _ _ _ => backL_agr) h 4 (by decide)) 4 (by decide)
theorem BB1_bd {f : Nat → Int32} (hf : bd 30401280 f) : bd 121605120 (stR backL f 4) := fun j hj => (stR_bd (backL_bnd (M := 30401280) (by decide)) (by decide) hf 4 (by decide) j hj).1
theorem BB_bd {f : Nat → Int32} (hf : bd 30401280 f) : bd 486420480 (BB f) := fun j hj => (stC_bd (backL_bnd (M := 121605120) (by decide)) (by decide) (BB1_bd hf) 4 (by decide) j hj).1
def sh6 (x : Int32) : Int32 := (x + 32) >>> ((6 : Int32) &&& 31)
def clipI (x : Int32) : Int32 := if 0 ≤ x then (if x ≤ 255 then x else 255) else 0
theorem clipI_ok (x : Int32) : pOk (clipI x) := by
  unfold clipI
  split
  · next c =>
    split
    · next c2 => exact nI_from c c2
    · exact ⟨255, by decide, rfl⟩
  · exact pOk0
theorem t_X10_clip {x : Int32} {K : Int32 → Prop} (h : K (clipI x)) : wp_X10_clip x K := by
  unfold clipI at h
  refine ⟨fun c => ⟨fun c2 => ?_, fun c2 => ?_⟩, fun c => ?_⟩
  · rw [if_pos c, if_pos c2] at h; exact h
  · rw [if_pos c, if_neg c2] at h; exact h
  · rw [if_neg c] at h; exact h
theorem t_X9_bring {x : Int32} {K : Int32 → Prop} (h : K (clipI x)) : wp_X9_bring x 0 255 K := t_X10_clip h
/-- block b's rebuilt pixels -/
def tol (m : Nat → Int32) (a b mode i : Nat) : Int32 := toldP (lnP m a b) (meanM m a b) mode ((i % 4 : Nat) : Int) ((i / 4 : Nat) : Int)
def rb (m : Nat → Int32) (a b mode : Nat) (l : Nat → Int32) (q i : Nat) : Int32 := clipI (tol m a b mode i + sh6 (BB (dq (fun _ => 0) l q 16) i))
def wr (f : Nat → Int32) (a b : Nat) (g : Nat → Int32) : Nat → Nat → Int32
  | 0 => f
  | i + 1 => upd (wr f a b g i) (atP a b i) (g i)
theorem wr_congr {f g g' : Nat → Int32} {a b : Nat} : ∀ n, (∀ i, i < n → g i = g' i) → wr f a b g n = wr f a b g' n
  | 0, _ => rfl
  | n + 1, h => by
    show upd (wr f a b g n) (atP a b n) (g n) = upd (wr f a b g' n) (atP a b n) (g' n)
    rw [wr_congr n (fun i hi => h i (by omega)), h n (by omega)]
theorem wr_same {f f' g : Nat → Int32} {a b j : Nat} (h : f j = f' j) : ∀ n, wr f a b g n j = wr f' a b g n j
  | 0 => h
  | n + 1 => by
    show upd (wr f a b g n) (atP a b n) (g n) j = upd (wr f' a b g n) (atP a b n) (g n) j
    rw [upd_if, upd_if, wr_same h n]
theorem wr_ok {f g : Nat → Int32} {a b j : Nat} (h : pOk (f j)) (hg : ∀ i, pOk (g i)) : ∀ n, pOk (wr f a b g n j)
  | 0 => h
  | n + 1 => by
    show pOk (upd (wr f a b g n) (atP a b n) (g n) j)
    rw [upd_if]
    split
    · exact hg n
    · exact wr_ok h hg n
theorem at_inj {a c c' i i' : Nat} (ha : 1 ≤ a ∧ a ≤ 8) (hi : i < 16) (hi' : i' < 16) (h : atP a c i = atP a c' i') : c = c' ∧ i = i' := by
  unfold atP at h
  have h1 : c % a < a := Nat.mod_lt _ (by omega)
  have h2 : c' % a < a := Nat.mod_lt _ (by omega)
  have hm : 4 * (c % a) + i % 4 = 4 * (c' % a) + i' % 4 := by omega
  have hR : c % a = c' % a := by omega
  have hQ4 : 4 * (c / a) + i / 4 = 4 * (c' / a) + i' / 4 := by omega
  have hQ : c / a = c' / a := by omega
  refine ⟨?_, by omega⟩
  rw [← Nat.div_add_mod c a, ← Nat.div_add_mod c' a, hQ, hR]
theorem wr_at {f g : Nat → Int32} {a b : Nat} (ha : 1 ≤ a ∧ a ≤ 8) : ∀ n, n ≤ 16 → ∀ i, i < n → wr f a b g n (atP a b i) = g i
  | 0, _, i, hi => absurd hi (by omega)
  | n + 1, h, i, hi => by
    show upd (wr f a b g n) (atP a b n) (g n) (atP a b i) = g i
    by_cases e : i = n
    · rw [e, upd_s]
    · rw [upd_n _ _ (fun c => e (at_inj ha (by omega) (by omega) c).2), wr_at ha n (by omega) i (by omega)]
theorem wr_off {f g : Nat → Int32} {a b c : Nat} (ha : 1 ≤ a ∧ a ≤ 8) (hc : c ≠ b) : ∀ n, n ≤ 16 → ∀ i, i < 16 → wr f a b g n (atP a c i) = f (atP a c i)
  | 0, _, i, hi => rfl
  | n + 1, h, i, hi => by
    show upd (wr f a b g n) (atP a b n) (g n) (atP a c i) = _
    rw [upd_n _ _ (fun e => hc (at_inj ha (by omega) (by omega) e).1), wr_off ha hc n (by omega) i hi]
theorem lay0_s (f : Nat → Int32) (i : Nat) (g : Nat → Int32) : upd (lay4 f 0 i g) i (g i) = lay4 f 0 (i + 1) g := by
  have := lay4_s f 0 i g
  rw [Nat.zero_add] at this
  exact this
theorem lay0_at (f : Nat → Int32) (n : Nat) (g : Nat → Int32) {j : Nat} (h : j < n) : lay4 f 0 n g j = g j := by
  unfold lay4; rw [if_pos (by omega), Nat.sub_zero]
theorem lay0_off (f : Nat → Int32) (n : Nat) (g : Nat → Int32) {j : Nat} (h : n ≤ j) : lay4 f 0 n g j = f j := by
  unfold lay4; rw [if_neg (by omega)]
theorem lay4_at (f : Nat → Int32) (b n : Nat) (g : Nat → Int32) {j : Nat} (h : j < n) : lay4 f b n g (b + j) = g j := by
  unfold lay4; rw [if_pos (by omega)]; congr 1; omega
theorem lay4_off (f : Nat → Int32) (b n : Nat) (g : Nat → Int32) {j : Nat} (h : j < b ∨ b + n ≤ j) : lay4 f b n g j = f j := by
  unfold lay4; rw [if_neg (by omega)]
theorem lay4_congr {f g g' : Nat → Int32} {b n : Nat} (h : ∀ i, i < n → g i = g' i) : lay4 f b n g = lay4 f b n g' := by
  funext j
  unfold lay4
  split
  · exact h _ (by omega)
  · rfl
theorem t_X8_back_3 {b q : Nat} {f lv l : Nat → Int32} {K : (Nat → Int32) → Prop} {X : Int32 → (Nat → Int32) → Prop} (hb : b < 64) (hq : q ≤ 51) (hl : ∀ i, i < 16 → lv (16 * b + i) = l i) (h : ∀ v, X v (dq f l q 16)) : ∃ k, wl_X8_back_3 (nI (16 * b)) (nI q) lv K X k 0 f := by
  refine loopS (fun n i g => wl_X8_back_3 (nI (16 * b)) (nI q) lv K X n (nI i) g) (dq f l q) 16 (fun n => ?_) (fun n i hi ih => ?_)
  · rw [wl_X8_back_3]; exact yes (by decide) (h _)
  · rw [wl_X8_back_3]
    have ho := oT_lt i hi
    refine nay (nI_ge (a := i) (b := 16) hi (by decide)) ⟨nI_in', fun p hp => ?_⟩
    rw [jat_nI, jm_O i hi] at hp
    subst hp
    rw [nI_add]
    refine ⟨nI_in', t_X8_factorOf hq ho ⟨nI_in' (h := ⟨fac_lt q _, by decide⟩), nI_in', fun x hx => ?_⟩⟩
    rw [hx, nI_1, jat_nI lv, jat_nI jm_BACK (by have := fac_lt q (oT i); omega), (jm_Bk _ (fac_lt q _)).1, nI_d6 hq, shl_eq _ (by omega), jup_nI, hl i hi]
    exact ih
theorem t_X8_back_102 {f : Nat → Int32} {K : (Nat → Int32) → Prop} {X : Int32 → (Nat → Int32) → Prop} (h : ∀ v, X v (lay4 f 0 16 (fun j => sh6 (f j)))) : ∃ k, wl_X8_back_102 K X k 0 f := by
  have key := loopS (fun n i g => wl_X8_back_102 K X n (nI i) g) (fun i => lay4 f 0 i (fun j => sh6 (f j))) 16 (fun n => ?_) (fun n i hi ih => ?_)
  · obtain ⟨k, hk⟩ := key
    refine ⟨k, ?_⟩
    rw [lay4_0] at hk
    exact hk
  · rw [wl_X8_back_102]; exact yes (by decide) (h _)
  · rw [wl_X8_back_102]
    refine nay (nI_ge (a := i) (b := 16) hi (by decide)) ⟨nI_in', nI_in', fun x hx => ?_⟩
    rw [hx, nI_1, jat_nI, jup_nI, lay0_off _ _ _ (Nat.le_refl i)]
    have e := lay0_s f i (fun j => sh6 (f j))
    unfold sh6 at e ih ⊢
    rw [e]; exact ih
theorem t_X8_back {b q : Nat} {f lv l : Nat → Int32} {K : (Nat → Int32) → Prop} (hb : b < 64) (hq : q ≤ 51) (hl : ∀ i, i < 16 → lv (16 * b + i) = l i) (h : ∀ tc, (∀ i, i < 16 → tc i = sh6 (BB (dq (fun _ => 0) l q 16) i)) → K tc) : wp_X8_back f lv (nI (16 * b)) (nI q) K := by
  refine t_X8_back_3 hb hq hl (fun _ => t_X8_back_56 (fun _ => t_X8_back_80 (fun _ => t_X8_back_102 (fun _ => h _ (fun i hi => ?_)))))
  rw [lay0_at _ _ _ hi]
  show sh6 (BB (dq f l q 16) i) = _
  rw [BB_agr (dq_agr f (fun _ => 0) l q) i hi]
/-- the place of a pixel of a block -/
theorem i4 {i : Nat} (hi : i < 16) : jrem (nI i) 4 = nI (i % 4) ∧ nI i / 4 = nI (i / 4) := ⟨nI_rem' (b := 4) (by omega), nI_div' (b := 4) (by omega)⟩
theorem at_lt {a d b i : Nat} (hs : 1 ≤ a ∧ a ≤ 8 ∧ 1 ≤ d ∧ d ≤ 8) (hb : b < a * d) (hi : i < 16) : atP a b i < 1024 := by
  obtain ⟨h1, h2, h3⟩ := blk hs hb
  unfold atP; omega
theorem at_cls {a b i : Nat} (hi : i < 16) : (32 * (nI (4 * (b / a)) + (nI i / 4))) + (nI (4 * (b % a)) + (jrem (nI i) 4)) = nI (atP a b i) := by
  rw [(i4 hi).1, (i4 hi).2, nI_add, nI_add, nI_32]; rfl
theorem at_mod {a b i : Nat} (hi : i < 16) : ((32 * ((4 * nI (b / a)) + (nI i / 4))) + (4 * nI (b % a))) + (jrem (nI i) 4) = nI (atP a b i) := by
  rw [(i4 hi).1, (i4 hi).2, ix4, ix4, nI_add]
  show nI 32 * _ + _ + _ = _
  rw [pk_mul, nI_add, nI_add]
  unfold atP; congr 1; omega
theorem t_X1_comeBack {a d b q mode : Nat} {px m mt tc lv l : Nat → Int32} {K : (Nat → Int32) → (Nat → Int32) → Prop} (hs : 1 ≤ a ∧ a ≤ 8 ∧ 1 ≤ d ∧ d ≤ 8) (hb : b < a * d) (hq : q ≤ 51) (hmt : ∀ i, i < 16 → mt i = tol m a b mode i) (hl : ∀ i, i < 16 → lv (16 * b + i) = l i)
    (h : ∀ tc', K (wr px a b (rb m a b mode l q) 16) tc') : wp_X1_comeBack mt (nI a) px tc (nI q) lv (nI b) K := by
  obtain ⟨h1, h2, h3⟩ := blk hs hb
  have ha : 1 ≤ a ∧ a ≤ 8 := ⟨hs.1, hs.2.1⟩
  unfold wp_X1_comeBack wp_X3_leftOf wp_X3_topOf
  have e16 : (16 * nI b : Int32) = nI (16 * b) := pk_mul 16 b
  rw [nr ha h3, nd ha h3, ix4, ix4, e16]
  refine ⟨nne ha, nne ha, t_X8_back h3 hq hl (fun tc' ht => ?_)⟩
  refine loopS (fun n i g => wl_X1_comeBack_41 (nI (4 * (b % a))) (nI (4 * (b / a))) mt tc' K (fun (v5_10 : Int32) (px_10 : (Nat → Int32)) => K px_10 tc') n (nI i) g) (wr px a b (rb m a b mode l q)) 16 (fun n => ?_) (fun n i hi ih => ?_)
  · rw [wl_X1_comeBack_41]; exact yes (by decide) (h _)
  · rw [wl_X1_comeBack_41]
    refine nay (nI_ge (a := i) (b := 16) hi (by decide)) ⟨nI_in', nI_in', t_X9_bring ?_⟩
    unfold wp_X3_set
    rw [at_cls hi, jat_nI, jat_nI, hmt i hi, ht i hi]
    refine ⟨nI_in' (h := ⟨at_lt hs hb hi, by decide⟩), fun x hx => ?_⟩
    rw [hx, nI_1, jup_nI _ _ (by have := at_lt hs hb hi; omega)]
    exact ih
theorem t_X10_cb_mo6_45 {q : Nat} {x : Int32} {K : (Nat → Int32) → (Nat → Int32) → Prop} {X : Int32 → Int32 → Prop} (hq : q ≤ 51) (h : ∀ v, X (x * nI (2 ^ (q / 6))) v) : ∃ k, wl_X10_comesBack_mo6_45 (nI q) K X k x 0 := by
  have key := loopS (fun n i s => wl_X10_comesBack_mo6_45 (nI q) K X n s (nI i)) (fun i => x * nI (2 ^ i)) (q / 6) (fun n => ?_) (fun n i hi ih => ?_)
  · have e : x * nI (2 ^ 0) = x := by
      show x * 1 = x
      rw [Int32.mul_one]
    rw [e] at key; exact key
  · rw [wl_X10_comesBack_mo6_45, nI_d6 hq, nI_le']; exact yes (by omega) (h _)
  · rw [wl_X10_comesBack_mo6_45, nI_d6 hq, nI_le']
    refine nay (by omega) (fun y hy z hz => ?_)
    have e2 : (2 : Int32) = nI 2 := rfl
    have e : 2 * (x * nI (2 ^ i)) = x * nI (2 ^ (i + 1)) := by
      rw [e2, Nat.pow_succ, ← pk_mul]
      ac_rfl
    rw [hy, hz, nI_1, e]; exact ih
theorem t_X10_cb_mo6_3 {b q : Nat} {f lv l : Nat → Int32} {K : (Nat → Int32) → (Nat → Int32) → Prop} {X : Int32 → (Nat → Int32) → Prop} (hb : b < 64) (hq : q ≤ 51) (hl : ∀ i, i < 16 → lv (16 * b + i) = l i) (h : ∀ v, X v (dq f l q 16)) : ∃ k, wl_X10_comesBack_mo6_3 (nI b) (nI q) lv K X k 0 f := by
  refine loopS (fun n i g => wl_X10_comesBack_mo6_3 (nI b) (nI q) lv K X n (nI i) g) (dq f l q) 16 (fun n => ?_) (fun n i hi ih => ?_)
  · rw [wl_X10_comesBack_mo6_3]; exact yes (by decide) (h _)
  · rw [wl_X10_comesBack_mo6_3]
    have ho := oT_lt i hi
    have e16 : (16 * nI b) + nI i = nI (16 * b + i) := by
      show nI 16 * nI b + nI i = _
      rw [pk_mul, nI_add]
    rw [e16]
    refine nay (nI_ge (a := i) (b := 16) hi (by decide)) (t_X10_placeOf hi ⟨nI_in', t_X10_backBy hq ho (fun x hx => ?_)⟩)
    rw [jat_nI, hl i hi] at hx
    subst hx
    refine t_X10_cb_mo6_45 hq (fun _ => ⟨nI_in', fun x hx => ?_⟩)
    rw [hx, nI_1, jup_nI]
    exact ih
theorem t_X10_comesBack_mo6 {a d b q mode : Nat} {m mwk lv l : Nat → Int32} {K : (Nat → Int32) → (Nat → Int32) → Prop} (hs : 1 ≤ a ∧ a ≤ 8 ∧ 1 ≤ d ∧ d ≤ 8) (hb : b < a * d) (hq : q ≤ 51) (hm : mode < 9) (hmay : mayB (0 < b / a) (0 < b % a) mode) (hl : ∀ i, i < 16 → lv (16 * b + i) = l i) (hlb : ∀ i, i < 16 → bnd 4095 (l i))
    (h : ∀ mwk', K (wr m a b (rb m a b mode l q) 16) mwk') : wp_X10_comesBack_mo6 (nI a) m lv mwk (nI b) (nI mode) (nI q) K := by
  obtain ⟨h1, h2, h3⟩ := blk hs hb
  have ha : 1 ≤ a ∧ a ≤ 8 := ⟨hs.1, hs.2.1⟩
  have hD : bd 30401280 (dq mwk l q 16) := dq_bd hq hlb
  refine t_X10_cb_mo6_3 h3 hq hl (fun _ => t_X10_comesBack_mo6_85 (M := 30401280) (by decide) hD (fun _ => t_X10_comesBack_mo6_109 (M := 121605120) (by decide) (BB1_bd hD) (fun _ => ?_)))
  have key := loopS (fun n i g => wl_X10_comesBack_mo6_131 (nI b) (nI mode) (nI a) m K (fun (v5_30 : Int32) (mwk_30 : (Nat → Int32)) => ∃ k : Nat, wl_X10_comesBack_mo6_187 (nI b) (nI a) mwk_30 K (fun (v5_38 : Int32) (mpic_38 : (Nat → Int32)) => K mpic_38 mwk_30) k 0 m) n (nI i) g) (fun i => lay4 (BB (dq mwk l q 16)) 0 i (rb m a b mode l q)) 16 (fun n => ?_) (fun n i hi ih => ?_)
  · obtain ⟨k, hk⟩ := key
    refine ⟨k, ?_⟩
    rw [lay4_0] at hk
    exact hk
  · rw [wl_X10_comesBack_mo6_131]
    refine yes (by decide) ?_
    refine loopS (fun n i g => wl_X10_comesBack_mo6_187 (nI b) (nI a) (lay4 (BB (dq mwk l q 16)) 0 16 (rb m a b mode l q)) K (fun (v5_38 : Int32) (mpic_38 : (Nat → Int32)) => K mpic_38 (lay4 (BB (dq mwk l q 16)) 0 16 (rb m a b mode l q))) n (nI i) g) (wr m a b (rb m a b mode l q)) 16 (fun n => ?_) (fun n i hi ih => ?_)
    · rw [wl_X10_comesBack_mo6_187]; exact yes (by decide) (h _)
    · rw [wl_X10_comesBack_mo6_187, nr ha h3, nd ha h3, at_mod hi]
      refine nay (nI_ge (a := i) (b := 16) hi (by decide)) ⟨nne ha, nne ha, nI_in', nI_in' (h := ⟨at_lt hs hb hi, by decide⟩), fun x hx => ?_⟩
      rw [hx, nI_1, jup_nI _ _ (by have := at_lt hs hb hi; omega), jat_nI, lay0_at _ _ _ hi]
      exact ih
  · rw [wl_X10_comesBack_mo6_131, (i4 hi).1, (i4 hi).2]
    refine nay (nI_ge (a := i) (b := 16) hi (by decide)) (t_X10_told hs hb hm (by omega) (by omega) hmay ⟨nI_in', ?_⟩)
    rw [jat_nI, lay0_off _ _ _ (Nat.le_refl i)]
    have hB := BB_bd hD i hi
    refine t_down (D := 64) (k := 6) (Or.inr (Or.inr ⟨rfl, rfl⟩)) ?_ (t_X10_clip ⟨nI_in', fun x hx => ?_⟩)
    · have := bnd_add hB (N := 32) (y := 32) (show (32 : Int32).toInt.natAbs ≤ 32 by decide) (by decide)
      unfold bnd at this
      omega
    · rw [hx, nI_1, jup_nI]
      have e := lay0_s (BB (dq mwk l q 16)) i (rb m a b mode l q)
      have e2 : rb m a b mode l q i = clipI (toldP (lnP m a b) (meanM m a b) mode ((i % 4 : Nat) : Int) ((i / 4 : Nat) : Int) + ((BB (dq mwk l q 16) i + 32) >>> (nI 6 &&& 31))) := by
        unfold rb
        rw [← BB_agr (dq_agr mwk (fun _ => 0) l q) i hi]
        rfl
      rw [← e2, e]
      exact ih
theorem t_X10_cb_mo8_45 {q : Nat} {x : Int32} {K : (Nat → Int32) → (Nat → Int32) → Prop} {X : Int32 → Int32 → Prop} (hq : q ≤ 51) (h : ∀ v, X (x * nI (2 ^ (q / 6))) v) : ∃ k, wl_X10_comesBack_mo8_45 (nI q) K X k x 0 := by
  have key := loopS (fun n i s => wl_X10_comesBack_mo8_45 (nI q) K X n s (nI i)) (fun i => x * nI (2 ^ i)) (q / 6) (fun n => ?_) (fun n i hi ih => ?_)
  · have e : x * nI (2 ^ 0) = x := by
      show x * 1 = x
      rw [Int32.mul_one]
    rw [e] at key; exact key
  · rw [wl_X10_comesBack_mo8_45, nI_d6 hq, nI_le']; exact yes (by omega) (h _)
  · rw [wl_X10_comesBack_mo8_45, nI_d6 hq, nI_le']
    refine nay (by omega) (fun y hy z hz => ?_)
    have e2 : (2 : Int32) = nI 2 := rfl
    have e : 2 * (x * nI (2 ^ i)) = x * nI (2 ^ (i + 1)) := by
      rw [e2, Nat.pow_succ, ← pk_mul]
      ac_rfl
    rw [hy, hz, nI_1, e]; exact ih
theorem t_X10_cb_mo8_3 {b q : Nat} {f lv l : Nat → Int32} {K : (Nat → Int32) → (Nat → Int32) → Prop} {X : Int32 → (Nat → Int32) → Prop} (hb : b < 64) (hq : q ≤ 51) (hl : ∀ i, i < 16 → lv (16 * b + i) = l i) (h : ∀ v, X v (dq f l q 16)) : ∃ k, wl_X10_comesBack_mo8_3 (nI b) (nI q) lv K X k 0 f := by
  refine loopS (fun n i g => wl_X10_comesBack_mo8_3 (nI b) (nI q) lv K X n (nI i) g) (dq f l q) 16 (fun n => ?_) (fun n i hi ih => ?_)
  · rw [wl_X10_comesBack_mo8_3]; exact yes (by decide) (h _)
  · rw [wl_X10_comesBack_mo8_3]
    have ho := oT_lt i hi
    have e16 : (16 * nI b) + nI i = nI (16 * b + i) := by
      show nI 16 * nI b + nI i = _
      rw [pk_mul, nI_add]
    rw [e16]
    refine nay (nI_ge (a := i) (b := 16) hi (by decide)) (t_X10_placeOf hi ⟨nI_in', t_X10_backBy hq ho (fun x hx => ?_)⟩)
    rw [jat_nI, hl i hi] at hx
    subst hx
    refine t_X10_cb_mo8_45 hq (fun _ => ⟨nI_in', fun x hx => ?_⟩)
    rw [hx, nI_1, jup_nI]
    exact ih
theorem t_X10_comesBack_mo8 {a d b q mode : Nat} {m mwk lv l : Nat → Int32} {K : (Nat → Int32) → (Nat → Int32) → Prop} (hs : 1 ≤ a ∧ a ≤ 8 ∧ 1 ≤ d ∧ d ≤ 8) (hb : b < a * d) (hq : q ≤ 51) (hm : mode < 9) (hmay : mayB (0 < b / a) (0 < b % a) mode) (hl : ∀ i, i < 16 → lv (16 * b + i) = l i) (hlb : ∀ i, i < 16 → bnd 4095 (l i))
    (h : ∀ mwk', K (wr m a b (rb m a b mode l q) 16) mwk') : wp_X10_comesBack_mo8 (nI a) m lv mwk (nI b) (nI mode) (nI q) K := by
  obtain ⟨h1, h2, h3⟩ := blk hs hb
  have ha : 1 ≤ a ∧ a ≤ 8 := ⟨hs.1, hs.2.1⟩
  have hD : bd 30401280 (dq mwk l q 16) := dq_bd hq hlb
  refine t_X10_cb_mo8_3 h3 hq hl (fun _ => t_X10_comesBack_mo8_85 (M := 30401280) (by decide) hD (fun _ => t_X10_comesBack_mo8_109 (M := 121605120) (by decide) (BB1_bd hD) (fun _ => ?_)))
  have key := loopS (fun n i g => wl_X10_comesBack_mo8_131 (nI b) (nI mode) (nI a) m K (fun (v5_30 : Int32) (mwk_30 : (Nat → Int32)) => ∃ k : Nat, wl_X10_comesBack_mo8_187 (nI b) (nI a) mwk_30 K (fun (v5_38 : Int32) (mpic_38 : (Nat → Int32)) => K mpic_38 mwk_30) k 0 m) n (nI i) g) (fun i => lay4 (BB (dq mwk l q 16)) 0 i (rb m a b mode l q)) 16 (fun n => ?_) (fun n i hi ih => ?_)
  · obtain ⟨k, hk⟩ := key
    refine ⟨k, ?_⟩
    rw [lay4_0] at hk
    exact hk
  · rw [wl_X10_comesBack_mo8_131]
    refine yes (by decide) ?_
    refine loopS (fun n i g => wl_X10_comesBack_mo8_187 (nI b) (nI a) (lay4 (BB (dq mwk l q 16)) 0 16 (rb m a b mode l q)) K (fun (v5_38 : Int32) (mpic_38 : (Nat → Int32)) => K mpic_38 (lay4 (BB (dq mwk l q 16)) 0 16 (rb m a b mode l q))) n (nI i) g) (wr m a b (rb m a b mode l q)) 16 (fun n => ?_) (fun n i hi ih => ?_)
    · rw [wl_X10_comesBack_mo8_187]; exact yes (by decide) (h _)
    · rw [wl_X10_comesBack_mo8_187, nr ha h3, nd ha h3, at_mod hi]
      refine nay (nI_ge (a := i) (b := 16) hi (by decide)) ⟨nne ha, nne ha, nI_in', nI_in' (h := ⟨at_lt hs hb hi, by decide⟩), fun x hx => ?_⟩
      rw [hx, nI_1, jup_nI _ _ (by have := at_lt hs hb hi; omega), jat_nI, lay0_at _ _ _ hi]
      exact ih
  · rw [wl_X10_comesBack_mo8_131, (i4 hi).1, (i4 hi).2]
    refine nay (nI_ge (a := i) (b := 16) hi (by decide)) (t_X10_told hs hb hm (by omega) (by omega) hmay ⟨nI_in', ?_⟩)
    rw [jat_nI, lay0_off _ _ _ (Nat.le_refl i)]
    have hB := BB_bd hD i hi
    refine t_down (D := 64) (k := 6) (Or.inr (Or.inr ⟨rfl, rfl⟩)) ?_ (t_X10_clip ⟨nI_in', fun x hx => ?_⟩)
    · have := bnd_add hB (N := 32) (y := 32) (show (32 : Int32).toInt.natAbs ≤ 32 by decide) (by decide)
      unfold bnd at this
      omega
    · rw [hx, nI_1, jup_nI]
      have e := lay0_s (BB (dq mwk l q 16)) i (rb m a b mode l q)
      have e2 : rb m a b mode l q i = clipI (toldP (lnP m a b) (meanM m a b) mode ((i % 4 : Nat) : Int) ((i / 4 : Nat) : Int) + ((BB (dq mwk l q 16) i + 32) >>> (nI 6 &&& 31))) := by
        unfold rb
        rw [← BB_agr (dq_agr mwk (fun _ => 0) l q) i hi]
        rfl
      rw [← e2, e]
      exact ih
