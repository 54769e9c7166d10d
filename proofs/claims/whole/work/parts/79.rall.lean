/-! the whole reading -/
noncomputable def rHd (β : Nat → Nat) (N : Nat) : Except (Nat × Nat) (Nat × Nat × Nat × Nat × Nat) := match rN β N 0 7 2 with
  | .error e => .error e
  | .ok (A, p1) => match rN β N p1 7 2 with
    | .error e => .error e
    | .ok (D, p2) => match rN β N p2 51 2 with
      | .error e => .error e
      | .ok (q, p3) => match rB β N p3 1 with
        | .error e => .error e
        | .ok (z, p4) => .ok (A + 1, D + 1, q, z, p4)
noncomputable def rAl (β : Nat → Nat) (N a q p0 : Nat) (m0 : Nat → Int32) : Nat → Except (Nat × Nat) (Nat × (Nat → Nat) × (Nat → Nat → Int32) × (Nat → Int32))
  | 0 => .ok (p0, fun _ => 0, fun _ _ => 0, m0)
  | b + 1 => match rAl β N a q p0 m0 b with
    | .error e => .error e
    | .ok (p, mo, lv, m) => match rBk β N a mo b p with
      | .error e => .error e
      | .ok (md, f, p') => .ok (p', (fun c => if c = b then md else mo c), (fun c => if c = b then f else lv c), wr m a b (rb m a b md f q) 16)
def cln (β : Nat → Nat) (N p : Nat) : Prop := N - p < 8 ∧ val β p (N - p) = 0
noncomputable def rT (β : Nat → Nat) (N : Nat) (m0 : Nat → Int32) : Except (Nat × Nat) Unit := match rHd β N with
  | .error e => .error e
  | .ok (a, d, q, _, p0) => match rAl β N a q p0 m0 (a * d) with
    | .error e => .error e
    | .ok (p, _, _, _) => by classical exact if cln β N p then .ok () else .error (7, p)
theorem rAl_err {β : Nat → Nat} {N a q p0 : Nat} {m0 : Nat → Int32} {b : Nat} {e : Nat × Nat} (h : rAl β N a q p0 m0 b = .error e) : ∀ k, rAl β N a q p0 m0 (b + k) = .error e
  | 0 => h
  | k + 1 => by
    show rAl β N a q p0 m0 (b + k + 1) = _
    rw [rAl, rAl_err h k]
theorem rAl_s {β : Nat → Nat} {N a q p0 : Nat} {m0 : Nat → Int32} {b : Nat} {p : Nat} {mo : Nat → Nat} {lv : Nat → Nat → Int32} {m : Nat → Int32} (h : rAl β N a q p0 m0 b = .ok (p, mo, lv, m)) {md p' : Nat} {f : Nat → Int32} (h2 : rBk β N a mo b p = .ok (md, f, p')) :
    rAl β N a q p0 m0 (b + 1) = .ok (p', (fun c => if c = b then md else mo c), (fun c => if c = b then f else lv c), wr m a b (rb m a b md f q) 16) := by
  rw [rAl, h]
  dsimp only
  rw [h2]
theorem rAl_e {β : Nat → Nat} {N a q p0 : Nat} {m0 : Nat → Int32} {b : Nat} {p : Nat} {mo : Nat → Nat} {lv : Nat → Nat → Int32} {m : Nat → Int32} (h : rAl β N a q p0 m0 b = .ok (p, mo, lv, m)) {e : Nat × Nat} (h2 : rBk β N a mo b p = .error e) {n : Nat} (hn : b < n) :
    rAl β N a q p0 m0 n = .error e := by
  have h3 : rAl β N a q p0 m0 (b + 1) = .error e := by
    rw [rAl, h]
    dsimp only
    rw [h2]
  have := rAl_err h3 (n - (b + 1))
  have en : b + 1 + (n - (b + 1)) = n := by omega
  rw [en] at this; exact this
theorem rAl_keep {β : Nat → Nat} {N a q p0 : Nat} {m0 : Nat → Int32} : ∀ (n : Nat) {p : Nat} {mo : Nat → Nat} {lv : Nat → Nat → Int32} {m : Nat → Int32}, rAl β N a q p0 m0 n = .ok (p, mo, lv, m) → ∀ b, b < n →
    ∃ p1 mo1 lv1 m1 p2, rAl β N a q p0 m0 b = .ok (p1, mo1, lv1, m1) ∧ rBk β N a mo1 b p1 = .ok (mo b, lv b, p2)
  | 0, p, mo, lv, m, h, b, hb => absurd hb (by omega)
  | n + 1, p, mo, lv, m, h, b, hb => by
    rw [rAl] at h
    split at h
    · exact absurd h (by simp)
    · next p1 mo1 lv1 m1 h1 =>
      split at h
      · exact absurd h (by simp)
      · next md f p2 h2 =>
        injection h with h
        injection h with e1 h
        injection h with e2 h
        injection h with e3 e4
        subst e2 e3
        by_cases e : b = n
        · subst e
          refine ⟨p1, mo1, lv1, m1, p2, h1, ?_⟩
          simp only [if_true]
          exact h2
        · obtain ⟨p3, mo3, lv3, m3, p4, g1, g2⟩ := rAl_keep n h1 b (by omega)
          refine ⟨p3, mo3, lv3, m3, p4, g1, ?_⟩
          simp only [if_neg e]
          exact g2
theorem val_zero {β : Nat → Nat} {p : Nat} : ∀ n, val β p n = 0 ↔ ∀ t, t < n → β (p + t) = 0
  | 0 => ⟨fun _ t ht => absurd ht (by omega), fun _ => rfl⟩
  | n + 1 => by
    have ih := val_zero (β := β) (p := p) n
    have e : val β p (n + 1) = 2 * val β p n + β (p + n) := rfl
    rw [e]
    refine ⟨fun h t ht => ?_, fun h => ?_⟩
    · rcases Nat.lt_or_ge t n with c | c
      · exact ih.mp (by omega) t c
      · have : t = n := by omega
        subst this; omega
    · have h1 := ih.mpr (fun t ht => h t (by omega))
      have h2 := h n (by omega)
      omega
theorem t_X0_endsClean {sb : Nat → Int32} {β : Nat → Nat} {c p : Nat} {rf rp : Int32} {K : Int32 → Int32 → Int32 → Prop} (hc : c ≤ 8000) (hb : bitsOf sb β (8 * c)) (hβ : ∀ i, β i ≤ 1) (hp : p ≤ 8 * c)
    (hO : cln β (8 * c) p → K 1 rf rp) (hF : ¬ cln β (8 * c) p → K 0 7 (nI p)) : wp_X0_endsClean (nI p) rf rp (nI c) sb K := by
  have n1 : ¬ (1 : Int32) = 0 := by decide
  unfold wp_X0_endsClean wp_X0_left wp_X0_fail jn1
  rw [nI_8, nI_sub' hp]
  dsimp only
  have e8 : (8 : Int32) = nI 8 := rfl
  rw [e8, nI_le']
  refine ⟨fun q => ⟨1, ?_⟩, fun q => ?_⟩
  · rw [wl_X0_endsClean_17]
    exact yes rfl (yes rfl ⟨jz0, hF (fun h => by have := h.1; omega)⟩)
  · have go : ∀ (d i n : Nat), i + d = 8 * c - p → d + 1 < n → (∀ t, t < i → β (p + t) = 0) → wl_X0_endsClean_17 (nI p) (nI c) sb K (fun (v1_10 : Int32) (v2_10 : Int32) => ((v1_10 = 0 → jz v1_10 ∧ K v1_10 7 (nI p)) ∧ (¬ v1_10 = 0 → jz v1_10 ∧ K v1_10 rf rp))) n 1 (nI i) := by
      intro d
      induction d with
      | zero =>
        intro i n hi hn h2
        obtain ⟨n, rfl⟩ : ∃ j, n = j + 1 := ⟨n - 1, by omega⟩
        rw [wl_X0_endsClean_17]
        unfold wp_X0_left
        rw [nI_8, nI_sub' hp]
        dsimp only
        rw [nI_le']
        refine nay n1 (yes (by omega) (nay n1 ⟨jz1, hO ⟨by omega, (val_zero _).mpr (fun t ht => h2 t (by omega))⟩⟩))
      | succ d ih =>
        intro i n hi hn h2
        obtain ⟨n, rfl⟩ : ∃ j, n = j + 2 := ⟨n - 2, by omega⟩
        rw [wl_X0_endsClean_17]
        unfold wp_X0_left
        rw [nI_8, nI_sub' hp, nI_add]
        dsimp only
        rw [nI_le']
        refine nay n1 (nay (by omega) (t_X7_bitAt hb (by omega) (by omega) ?_))
        unfold jn1
        have hbi := hβ (p + i)
        have hcs : β (p + i) = 0 ∨ β (p + i) = 1 := by omega
        rcases hcs with e | e
        · rw [e]
          refine yes rfl (fun x hx => ?_)
          rw [hx, nI_1]
          refine ih (i + 1) (n + 1) (by omega) (by omega) (fun t ht => ?_)
          rcases Nat.lt_or_ge t i with c2 | c2
          · exact h2 t c2
          · have : t = i := by omega
            rw [this]; exact e
        · rw [e]
          refine nay n1 (fun x hx => ?_)
          rw [wl_X0_endsClean_17]
          refine yes rfl (yes rfl ⟨jz0, hF (fun h => ?_)⟩)
          have := (val_zero _).mp h.2 i (by omega)
          omega
    exact ⟨8 * c - p + 2, go (8 * c - p) 0 _ (by omega) (by omega) (fun t ht => absurd ht (by omega))⟩
def rowU (a : Nat) (mo : Nat → Nat) (lv : Nat → Nat → Int32) (lm g : Nat → Int32) (n : Nat) : Prop := ∀ c, c < n → lm c = nI (mo c) ∧ mo c < 9 ∧ mayB (0 < c / a) (0 < c % a) (mo c) ∧ blkIs g (lv c) c
theorem rowU_s {a b md : Nat} {mo : Nat → Nat} {lv : Nat → Nat → Int32} {lm g g' f : Nat → Int32} (h : rowU a mo lv lm g b) (hm : md < 9) (hmay : mayB (0 < b / a) (0 < b % a) md) (hf : blkIs g' f b) (ho : offIs g' g b) :
    rowU a (fun c => if c = b then md else mo c) (fun c => if c = b then f else lv c) (upd lm b (nI md)) g' (b + 1) := by
  intro c hc
  dsimp only
  by_cases e : c = b
  · subst e
    rw [if_pos rfl, if_pos rfl]
    exact ⟨upd_s _ _ _, hm, hmay, hf⟩
  · rw [if_neg e, if_neg e, upd_n _ _ e]
    obtain ⟨h1, h2, h3, h4⟩ := h c (by omega)
    exact ⟨h1, h2, h3, fun i hi => (ho _ (by omega)).trans (h4 i hi)⟩
theorem c_read {sb : Nat → Int32} {β : Nat → Nat} {c : Nat} {m0 : Nat → Int32} {rn rf rp ua ud uq uz : Int32} {um uv : Nat → Int32} {K : Int32 → Int32 → Int32 → Int32 → Int32 → Int32 → Int32 → Int32 → (Nat → Int32) → (Nat → Int32) → Prop} (hc : c ≤ 8000) (hb : bitsOf sb β (8 * c)) (hβ : ∀ i, β i ≤ 1)
    (hE : ∀ e rn' la' ld' lq' lz' lm' lv', rT β (8 * c) m0 = .error e → K 0 rn' (nI e.1) (nI e.2) la' ld' lq' lz' lm' lv')
    (hO : ∀ a d q z p0 p mo lv m lm' lv' rn', rHd β (8 * c) = .ok (a, d, q, z, p0) → (1 ≤ a ∧ a ≤ 8 ∧ 1 ≤ d ∧ d ≤ 8) → q ≤ 51 → z ≤ 1 → rAl β (8 * c) a q p0 m0 (a * d) = .ok (p, mo, lv, m) → cln β (8 * c) p → rowU a mo lv lm' lv' (a * d) → K 1 rn' 0 (-1) (nI a) (nI d) (nI q) (nI z) lm' lv') :
    wp_X5_read rn rf rp (nI c) sb ua ud uq uz um uv K := by
  have n1 : ¬ (1 : Int32) = 0 := by decide
  have eH : ∀ e, rHd β (8 * c) = .error e → rT β (8 * c) m0 = .error e := fun e h => by unfold rT; rw [h]
  unfold wp_X5_read wp_X0_restart wp_X5_readHead
  refine c_rN (p := 0) (mx := 7) (code := 2) hc hb hβ (by omega) (by omega) (fun A p1 a1 a2 a3 a4 => nay (nm1 _ a2) ?_) (fun e rn' h => yes rfl (yes rfl (hE e _ _ _ _ _ _ _ (eH e (by unfold rHd; rw [h])))))
  refine c_rN (mx := 7) (code := 2) hc hb hβ a3 (by omega) (fun D p2 b1 b2 b3 b4 => nay (nm1 _ b2) ?_) (fun e rn' h => yes rfl (yes rfl (hE e _ _ _ _ _ _ _ (eH e (by unfold rHd; rw [a1]; dsimp only; rw [h])))))
  refine c_rN (mx := 51) (code := 2) hc hb hβ b3 (by omega) (fun q p3 c1 c2 c3 c4 => nay (nm1 _ c2) ?_) (fun e rn' h => yes rfl (yes rfl (hE e _ _ _ _ _ _ _ (eH e (by unfold rHd; rw [a1]; dsimp only; rw [b1]; dsimp only; rw [h])))))
  refine c_rB (n := 1) hc hb c3 (by decide) (fun d1 d2 => ?_) (fun rn' h => yes rfl (yes rfl (hE (1, p3) _ _ _ _ _ _ _ (eH _ (by unfold rHd; rw [a1]; dsimp only; rw [b1]; dsimp only; rw [c1]; dsimp only; rw [h])))))
  rw [val1] at d1 ⊢
  have hz := hβ p3
  have hH : rHd β (8 * c) = .ok (A + 1, D + 1, q, β p3, p3 + 1) := by unfold rHd; rw [a1]; dsimp only; rw [b1]; dsimp only; rw [c1]; dsimp only; rw [d1]
  refine nay (nm1 _ (by omega)) (t_X4_clear (fun lm' lv' e2 e3 => ?_))
  unfold jn1
  generalize hzz : β p3 = z at *
  have hs : 1 ≤ A + 1 ∧ A + 1 ≤ 8 ∧ 1 ≤ D + 1 ∧ D + 1 ≤ 8 := by omega
  have had := ad_le hs
  have hq : q ≤ 51 := by omega
  have ha : 1 ≤ A + 1 ∧ A + 1 ≤ 8 := ⟨hs.1, hs.2.1⟩
  rw [nI_1, nI_1]
  generalize A + 1 = a at *
  generalize D + 1 = d at *
  have rest : jz (nI z) ∧ ((1 : Int32) = 0 → K 0 (nI (p3 + 1)) 0 (-1) (nI a) (nI d) (nI q) (nI z) lm' lv') ∧ (¬ (1 : Int32) = 0 → ∃ k : Nat, wl_X5_read_19 (nI c) sb (nI a) (nI d) (nI q) (nI z) K (fun (v2_11 : Int32) (rn_11 : Int32) (rf_11 : Int32) (rp_11 : Int32) (lm_11 : (Nat → Int32)) (lv_11 : (Nat → Int32)) => wp_X0_endsClean rn_11 rf_11 rp_11 (nI c) sb (fun (r_12 : Int32) (rf_12 : Int32) (rp_12 : Int32) => jz r_12 ∧ K r_12 rn_11 rf_12 rp_12 (nI a) (nI d) (nI q) (nI z) lm_11 lv_11)) k 0 (nI (p3 + 1)) 0 (-1) lm' lv') := by
    have hjz : jz (nI z) := by
      have hcs : z = 0 ∨ z = 1 := by omega
      rcases hcs with e | e
      · rw [e]; exact jz0
      · rw [e]; exact jz1
    refine ⟨hjz, nay n1 ?_⟩
    have eA : ∀ e, rAl β (8 * c) a q (p3 + 1) m0 (a * d) = .error e → rT β (8 * c) m0 = .error e := fun e h => by
      unfold rT; rw [hH]; dsimp only; rw [h]
    refine pk_loop (fun n i (s : Int32 × Int32 × Int32 × (Nat → Int32) × (Nat → Int32)) => wl_X5_read_19 (nI c) sb (nI a) (nI d) (nI q) (nI z) K (fun (v2_11 : Int32) (rn_11 : Int32) (rf_11 : Int32) (rp_11 : Int32) (lm_11 : (Nat → Int32)) (lv_11 : (Nat → Int32)) => wp_X0_endsClean rn_11 rf_11 rp_11 (nI c) sb (fun (r_12 : Int32) (rf_12 : Int32) (rp_12 : Int32) => jz r_12 ∧ K r_12 rn_11 rf_12 rp_12 (nI a) (nI d) (nI q) (nI z) lm_11 lv_11)) n (nI i) s.1 s.2.1 s.2.2.1 s.2.2.2.1 s.2.2.2.2)
      (fun i s => ∃ p mo lv m, rAl β (8 * c) a q (p3 + 1) m0 i = .ok (p, mo, lv, m) ∧ s.1 = nI p ∧ s.2.1 = 0 ∧ s.2.2.1 = -1 ∧ p ≤ 8 * c ∧ rowU a mo lv s.2.2.2.1 s.2.2.2.2 i ∧ ∀ j, 16 * i ≤ j → j < 1024 → s.2.2.2.2 j = 0) (a * d) 0 (nI (p3 + 1), 0, -1, lm', lv') (by omega) ⟨p3 + 1, fun _ => 0, fun _ _ => 0, m0, rfl, rfl, rfl, rfl, d2, fun c hc => absurd hc (by omega), fun j _ hj => e3 j hj⟩ (fun n s hI => ?_) (fun n b s hb2 hI ih => ?_)
    · obtain ⟨rn1, rf1, rp1, lm1, lv1⟩ := s
      obtain ⟨p, mo, lv, m, k1, k2, k3, k4, k5, k6, -⟩ := hI
      dsimp only at k2 k3 k4 k6 ⊢
      subst k2 k3 k4
      rw [wl_X5_read_19]
      unfold wp_X4_blocks
      rw [pk_mul]
      dsimp only
      rw [nI_le']
      refine yes (by omega) (t_X0_endsClean hc hb hβ k5 (fun hcl => ⟨jz1, hO a d q z (p3 + 1) p mo lv m lm1 lv1 _ hH hs hq hz k1 hcl k6⟩) (fun hcl => ⟨jz0, hE (7, p) _ _ _ _ _ _ _ ?_⟩))
      unfold rT; rw [hH]; dsimp only; rw [k1]; dsimp only; rw [if_neg hcl]
    · obtain ⟨rn1, rf1, rp1, lm1, lv1⟩ := s
      obtain ⟨p, mo, lv, m, k1, k2, k3, k4, k5, k6, k7⟩ := hI
      dsimp only at k2 k3 k4 k6 k7 ⊢
      subst k2 k3 k4
      rw [wl_X5_read_19]
      unfold wp_X4_blocks
      rw [pk_mul]
      dsimp only
      rw [nI_le']
      refine nay (by omega) (c_rMd (mo := mo) hc hb hβ k5 ha (by omega) (fun x hx => ⟨(k6 x hx).1, (k6 x hx).2.1⟩) (fun md p' g1 g2 g3 g4 => nay n1 ?_) (fun e rn' g1 => yes rfl (hE e _ _ _ _ _ _ _ (eA e (rAl_e k1 (by unfold rBk; rw [g1]) hb2)))))
      refine c_rL hc hb hβ g4 (by omega) (fun i hi => k7 _ (by omega) (by omega)) (fun p4 f lv4 f1 f2 f3 f4 => nay n1 (fun x hx => ?_)) (fun e rn' lv4 f1 => yes rfl (hE e _ _ _ _ _ _ _ (eA e (rAl_e k1 (by unfold rBk; rw [g1]; dsimp only; rw [f1]) hb2))))
      rw [hx, nI_1]
      refine ih (nI p4, 0, -1, _, lv4) ⟨p4, _, _, _, rAl_s k1 (md := md) (f := f) (p' := p4) (by unfold rBk; rw [g1]; dsimp only; rw [f1]), rfl, rfl, rfl, f2, rowU_s k6 g2 g3 f3 f4, fun j hj1 hj2 => ?_⟩
      exact (f4 j (by omega)).trans (k7 j (by omega) hj2)
  have hcs : z = 0 ∨ z = 1 := by omega
  rcases hcs with e | e
  · subst e
    exact nay (by decide) rest
  · subst e
    exact yes rfl rest
