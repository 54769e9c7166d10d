/-! smoothing -/
def brg (x lo hi : Int32) : Int32 := if lo ≤ x then (if x ≤ hi then x else hi) else lo
def smD (f : Nat → Int32) (Q : Int32) (p s : Nat) : Int32 := brg (((((4 * (f p - f (p - s))) + f (p - 2 * s)) - f (p + s)) + 4) >>> ((3 : Int32) &&& 31)) (-((Q / 8) + 1)) ((Q / 8) + 1)
def smo (f : Nat → Int32) (Q : Int32) (p s : Nat) : Nat → Int32 :=
  if (Q * Q) / 24 ≤ jabs (f (p - s) - f p) then f else if (Q / 4) + 1 ≤ jabs (f (p - s) - f (p - 2 * s)) then f else if jabs (f (p + s) - f p) < (Q / 4) + 1 then upd (upd f (p - s) (clipI (f (p - s) + smD f Q p s))) p (clipI (f p - smD f Q p s)) else f
theorem t_X9_brg {x lo hi : Int32} {K : Int32 → Prop} (h : K (brg x lo hi)) : wp_X9_bring x lo hi K := by
  unfold brg at h
  refine ⟨fun c => ⟨fun c2 => ?_, fun c2 => ?_⟩, fun c => ?_⟩
  · rw [if_pos c, if_pos c2] at h; exact h
  · rw [if_pos c, if_neg c2] at h; exact h
  · rw [if_neg c] at h; exact h
theorem t_size' {x : Int32} {K : Int32 → Prop} (h : K (jabs x)) : wp_X10_size x K := by
  change K (if 0 ≤ x then x else 0 - x) at h
  refine ⟨fun c => ?_, fun c => ?_⟩
  · rw [if_pos c] at h; exact h
  · rw [if_neg c, Int32.zero_sub] at h; exact h
theorem ixm2 {p s : Nat} (h : 2 * s ≤ p) : nI p - (2 * nI s) = nI (p - 2 * s) := by
  show nI p - nI 2 * nI s = _
  rw [pk_mul, nI_sub']
theorem t_X3_smoothAcross {f : Nat → Int32} {Q : Int32} {p s : Nat} {K : (Nat → Int32) → Prop} (h1 : 2 * s ≤ p) (h2 : p + s < 1024) (h : K (smo f Q p s)) : wp_X3_smoothAcross f (nI p) (nI s) Q K := by
  unfold wp_X3_smoothAcross
  rw [ixm2 h1, nI_sub' (by omega), nI_add]
  refine ⟨nI_in', fun x4 q4 => ⟨nI_in', fun x5 q5 => ⟨nI_in', fun x6 q6 => ⟨nI_in', fun x7 q7 x8 q8 => ?_⟩⟩⟩⟩
  rw [jat_nI] at q4 q5 q6 q7
  subst q4 q5 q6 q7 q8
  unfold smo at h
  refine ⟨fun c => ?_, fun c => ⟨fun c2 => ?_, fun c2 => ⟨fun c3 x9 q9 => ?_, fun c3 => ?_⟩⟩⟩
  · rw [if_pos c] at h; exact h
  · rw [if_neg c, if_pos c2] at h; exact h
  · rw [if_neg c, if_neg c2, if_pos c3] at h
    subst q9
    refine t_X9_brg (t_X9_bring ⟨nI_in', t_X9_bring ⟨nI_in', ?_⟩⟩)
    rw [jup_nI, jup_nI]
    exact h
  · rw [if_neg c, if_neg c2, if_neg c3] at h; exact h
theorem pOk_bnd {x : Int32} (h : pOk x) : bnd 255 x := by
  obtain ⟨n, hn, rfl⟩ := h
  unfold bnd
  rw [nI_toInt (by omega)]; omega
theorem t_X10_smooth {f : Nat → Int32} {Q : Int32} {p s : Nat} {K : (Nat → Int32) → Prop} (h1 : 2 * s ≤ p) (h2 : p + s < 1024) (g0 : pOk (f (p - 2 * s))) (g1 : pOk (f (p - s))) (g2 : pOk (f p)) (g3 : pOk (f (p + s))) (h : K (smo f Q p s)) : wp_X10_smooth Q f (nI p) (nI s) K := by
  unfold wp_X10_smooth
  rw [ixm2 h1, nI_sub' (by omega), nI_add]
  refine ⟨nI_in', fun x4 q4 => ⟨nI_in', fun x5 q5 => ⟨nI_in', fun x6 q6 => ⟨nI_in', fun x7 q7 x8 q8 => t_size' ?_⟩⟩⟩⟩
  rw [jat_nI] at q4 q5 q6 q7
  subst q4 q5 q6 q7 q8
  unfold smo at h
  refine ⟨fun c => ?_, fun c => t_size' ⟨fun c2 => ?_, fun c2 => t_size' ⟨fun c3 x9 q9 => ?_, fun c3 => ?_⟩⟩⟩
  · rw [if_pos c] at h; exact h
  · rw [if_neg c, if_pos c2] at h; exact h
  · rw [if_neg c, if_neg c2, if_pos c3] at h
    subst q9
    have hb : bnd 2554 (((((4 * (f p - f (p - s))) + f (p - 2 * s)) - f (p + s)) + 4)) := by
      have e : (4 : Int32) * (f p - f (p - s)) = 2 * (2 * (f p - f (p - s))) := by
        have : (4 : Int32) = 2 * 2 := by decide
        rw [this, Int32.mul_assoc]
      rw [e]
      exact bnd_add (M := 2550) (N := 4) (bnd_sub (M := 2295) (N := 255) (bnd_add (M := 2040) (N := 255) (bnd_2 (M := 1020) (bnd_2 (M := 510) (bnd_sub (M := 255) (N := 255) (pOk_bnd g2) (pOk_bnd g1)))) (pOk_bnd g0)) (pOk_bnd g3)) (show (4 : Int32).toInt.natAbs ≤ 4 by decide)
    unfold bnd at hb
    refine t_down (D := 8) (k := 3) (Or.inr (Or.inl ⟨rfl, rfl⟩)) (by omega) ?_
    unfold jn1
    have step : ∀ t : Int32, t = smD f Q p s → wp_X10_clip (f (p - s) + t) (fun (r_19 : Int32) => vp_in (nI (p - s)) 1024 ∧ wp_X10_clip (f p - t) (fun (r_22 : Int32) => vp_in (nI p) 1024 ∧ K (jup (jup f (nI (p - s)) r_19) (nI p) r_22))) := by
      intro t ht
      subst ht
      refine t_X10_clip ⟨nI_in', t_X10_clip ⟨nI_in', ?_⟩⟩
      rw [jup_nI, jup_nI]
      exact h
    unfold smD brg at step
    refine ⟨fun d1 => ⟨fun d2 => step _ ?_, fun d2 => step _ ?_⟩, fun d1 => step _ ?_⟩
    · exact ((if_pos d1).trans (if_pos d2)).symm
    · exact ((if_pos d1).trans (if_neg d2)).symm
    · exact (if_neg d1).symm
  · rw [if_neg c, if_neg c2, if_neg c3] at h; exact h
theorem smo_rel {a d : Nat} {f g : Nat → Int32} {Q : Int32} {p s : Nat} (h : rPic a d f g) (e0 : f (p - 2 * s) = g (p - 2 * s)) (e1 : f (p - s) = g (p - s)) (e2 : f p = g p) (e3 : f (p + s) = g (p + s)) : rPic a d (smo f Q p s) (smo g Q p s) := by
  unfold smo smD
  rw [e0, e1, e2, e3]
  split
  · exact h
  · split
    · exact h
    · split
      · intro x y hx hy
        rw [upd_if, upd_if, upd_if, upd_if]
        split
        · exact ⟨rfl, clipI_ok _⟩
        · split
          · exact ⟨rfl, clipI_ok _⟩
          · exact h x y hx hy
      · exact h
/-! along the edges -/
def smV (f : Nat → Int32) (Q : Int32) (x : Nat) : Nat → Nat → Int32
  | 0 => f
  | y + 1 => smo (smV f Q x y) Q (32 * y + x) 1
def smH (f : Nat → Int32) (Q : Int32) (y : Nat) : Nat → Nat → Int32
  | 0 => f
  | x + 1 => smo (smH f Q y x) Q (32 * y + x) 32
def smVs (f : Nat → Int32) (Q : Int32) (d : Nat) : Nat → Nat → Int32
  | 0 => f
  | k + 1 => smV (smVs f Q d k) Q (4 * (k + 1)) (4 * d)
def smHs (f : Nat → Int32) (Q : Int32) (a : Nat) : Nat → Nat → Int32
  | 0 => f
  | k + 1 => smH (smHs f Q a k) Q (4 * (k + 1)) (4 * a)
def smA (f : Nat → Int32) (Q : Int32) (a d : Nat) : Nat → Int32 := smHs (smVs f Q d (a - 1)) Q a (d - 1)
theorem smV_rel {a d x : Nat} {f g : Nat → Int32} {Q : Int32} (h : rPic a d f g) (hx : 4 ≤ x ∧ x + 2 ≤ 4 * a) : ∀ y, y ≤ 4 * d → rPic a d (smV f Q x y) (smV g Q x y)
  | 0, _ => h
  | y + 1, hy => by
    have ih := smV_rel h hx (Q := Q) y (by omega)
    refine smo_rel ih ?_ ?_ ?_ ?_
    · have := (ih (x - 2) y (by omega) (by omega)).1
      have e : 32 * y + x - 2 * 1 = 32 * y + (x - 2) := by omega
      rw [e]; exact this
    · have := (ih (x - 1) y (by omega) (by omega)).1
      have e : 32 * y + x - 1 = 32 * y + (x - 1) := by omega
      rw [e]; exact this
    · exact (ih x y (by omega) (by omega)).1
    · have := (ih (x + 1) y (by omega) (by omega)).1
      exact this
theorem smH_rel {a d y : Nat} {f g : Nat → Int32} {Q : Int32} (h : rPic a d f g) (hy : 4 ≤ y ∧ y + 2 ≤ 4 * d) : ∀ x, x ≤ 4 * a → rPic a d (smH f Q y x) (smH g Q y x)
  | 0, _ => h
  | x + 1, hx => by
    have ih := smH_rel h hy (Q := Q) x (by omega)
    refine smo_rel ih ?_ ?_ ?_ ?_
    · have := (ih x (y - 2) (by omega) (by omega)).1
      have e : 32 * y + x - 2 * 32 = 32 * (y - 2) + x := by omega
      rw [e]; exact this
    · have := (ih x (y - 1) (by omega) (by omega)).1
      have e : 32 * y + x - 32 = 32 * (y - 1) + x := by omega
      rw [e]; exact this
    · exact (ih x y (by omega) (by omega)).1
    · have := (ih x (y + 1) (by omega) (by omega)).1
      have e : 32 * y + x + 32 = 32 * (y + 1) + x := by omega
      rw [e]; exact this
theorem smVs_rel {a d : Nat} {f g : Nat → Int32} {Q : Int32} (h : rPic a d f g) : ∀ k, k ≤ a - 1 → rPic a d (smVs f Q d k) (smVs g Q d k)
  | 0, _ => h
  | k + 1, hk => smV_rel (smVs_rel h k (by omega)) (by omega) _ (Nat.le_refl _)
theorem smHs_rel {a d : Nat} {f g : Nat → Int32} {Q : Int32} (h : rPic a d f g) : ∀ k, k ≤ d - 1 → rPic a d (smHs f Q a k) (smHs g Q a k)
  | 0, _ => h
  | k + 1, hk => smH_rel (smHs_rel h k (by omega)) (by omega) _ (Nat.le_refl _)
theorem smA_rel {a d : Nat} {f g : Nat → Int32} {Q : Int32} (h : rPic a d f g) : rPic a d (smA f Q a d) (smA g Q a d) := smHs_rel (smVs_rel h _ (Nat.le_refl _)) _ (Nat.le_refl _)
theorem nI_4s (k : Nat) : nI (4 * (k + 1)) + 4 = nI (4 * (k + 1 + 1)) := nI_add (4 * (k + 1)) 4
theorem t_X3_smoothEdges {a d : Nat} {f : Nat → Int32} {Q : Int32} {K : (Nat → Int32) → Prop} (hs : 1 ≤ a ∧ a ≤ 8 ∧ 1 ≤ d ∧ d ≤ 8) (h : K (smA f Q a d)) : wp_X3_smoothEdges (nI a) (nI d) f Q K := by
  unfold wp_X3_smoothEdges
  refine loopS (fun n i g => wl_X3_smoothEdges_2 Q (nI a) (nI d) K (fun (v2_7 : Int32) (px_7 : (Nat → Int32)) => ∃ k : Nat, wl_X3_smoothEdges_50 Q (nI a) (nI d) K (fun (v2_14 : Int32) (px_14 : (Nat → Int32)) => K px_14) k 4 px_7) n (nI (4 * (i + 1))) g) (smVs f Q d) (a - 1) (fun n => ?_) (fun n k hk ih => ?_)
  · rw [wl_X3_smoothEdges_2, ix4, nI_le']
    refine yes (by omega) ?_
    refine loopS (fun n i g => wl_X3_smoothEdges_50 Q (nI a) (nI d) K (fun (v2_14 : Int32) (px_14 : (Nat → Int32)) => K px_14) n (nI (4 * (i + 1))) g) (smHs (smVs f Q d (a - 1)) Q a) (d - 1) (fun n => ?_) (fun n k hk ih => ?_)
    · rw [wl_X3_smoothEdges_50, ix4, nI_le']
      exact yes (by omega) h
    · rw [wl_X3_smoothEdges_50, ix4, nI_le']
      refine nay (by omega) ?_
      refine loopS (fun n' i g => wl_X3_smoothEdges_62 Q (nI (4 * (k + 1))) (nI a) K (fun (v3_12 : Int32) (px_12 : (Nat → Int32)) => ∀ x2_13 : Int32, x2_13 = nI (4 * (k + 1)) + 4 → wl_X3_smoothEdges_50 Q (nI a) (nI d) K (fun (v2_14 : Int32) (px_14 : (Nat → Int32)) => K px_14) n x2_13 px_12) n' (nI i) g) (smH (smHs (smVs f Q d (a - 1)) Q a k) Q (4 * (k + 1))) (4 * a) (fun n' => ?_) (fun n' i hi ih2 => ?_)
      · rw [wl_X3_smoothEdges_62, ix4, nI_le']
        refine yes (by omega) (fun x hx => ?_)
        rw [hx, nI_4s]; exact ih
      · rw [wl_X3_smoothEdges_62, ix4, nI_le', nI_32]
        refine nay (by omega) (t_X3_smoothAcross (s := 32) (by omega) (by omega) (fun x hx => ?_))
        rw [hx, nI_1]; exact ih2
  · rw [wl_X3_smoothEdges_2, ix4, nI_le']
    refine nay (by omega) ?_
    refine loopS (fun n' i g => wl_X3_smoothEdges_14 Q (nI (4 * (k + 1))) (nI d) K (fun (v3_5 : Int32) (px_5 : (Nat → Int32)) => ∀ x2_6 : Int32, x2_6 = nI (4 * (k + 1)) + 4 → wl_X3_smoothEdges_2 Q (nI a) (nI d) K (fun (v2_7 : Int32) (px_7 : (Nat → Int32)) => ∃ k : Nat, wl_X3_smoothEdges_50 Q (nI a) (nI d) K (fun (v2_14 : Int32) (px_14 : (Nat → Int32)) => K px_14) k 4 px_7) n x2_6 px_5) n' (nI i) g) (smV (smVs f Q d k) Q (4 * (k + 1))) (4 * d) (fun n' => ?_) (fun n' i hi ih2 => ?_)
    · rw [wl_X3_smoothEdges_14, ix4, nI_le']
      refine yes (by omega) (fun x hx => ?_)
      rw [hx, nI_4s]; exact ih
    · rw [wl_X3_smoothEdges_14, ix4, nI_le', nI_32]
      refine nay (by omega) (t_X3_smoothAcross (s := 1) (by omega) (by omega) (fun x hx => ?_))
      rw [hx, nI_1]; exact ih2
theorem t_X10_smoothAll {a d : Nat} {f : Nat → Int32} {Q : Int32} {K : (Nat → Int32) → Prop} (hs : 1 ≤ a ∧ a ≤ 8 ∧ 1 ≤ d ∧ d ≤ 8) (hok : okM a d f) (h : K (smA f Q a d)) : wp_X10_smoothAll (nI a) (nI d) Q f K := by
  have hr : rPic a d f f := fun x y hx hy => ⟨rfl, hok x y hx hy⟩
  unfold wp_X10_smoothAll
  refine loopS (fun n i g => wl_X10_smoothAll_2 (nI a) (nI d) Q K (fun (v2_7 : Int32) (px_7 : (Nat → Int32)) => ∃ k : Nat, wl_X10_smoothAll_49 (nI a) (nI d) Q K (fun (v2_14 : Int32) (px_14 : (Nat → Int32)) => K px_14) k 4 px_7) n (nI (4 * (i + 1))) g) (smVs f Q d) (a - 1) (fun n => ?_) (fun n k hk ih => ?_)
  · rw [wl_X10_smoothAll_2, ix4, nI_le']
    refine yes (by omega) ?_
    have hr2 := smVs_rel (Q := Q) hr (a - 1) (Nat.le_refl _)
    refine loopS (fun n i g => wl_X10_smoothAll_49 (nI a) (nI d) Q K (fun (v2_14 : Int32) (px_14 : (Nat → Int32)) => K px_14) n (nI (4 * (i + 1))) g) (smHs (smVs f Q d (a - 1)) Q a) (d - 1) (fun n => ?_) (fun n k hk ih => ?_)
    · rw [wl_X10_smoothAll_49, ix4, nI_le']
      exact yes (by omega) h
    · rw [wl_X10_smoothAll_49, ix4, nI_le']
      refine nay (by omega) ?_
      refine loopS (fun n' i g => wl_X10_smoothAll_61 (nI (4 * (k + 1))) (nI a) Q K (fun (v3_12 : Int32) (px_12 : (Nat → Int32)) => ∀ x2_13 : Int32, x2_13 = nI (4 * (k + 1)) + 4 → wl_X10_smoothAll_49 (nI a) (nI d) Q K (fun (v2_14 : Int32) (px_14 : (Nat → Int32)) => K px_14) n x2_13 px_12) n' (nI i) g) (smH (smHs (smVs f Q d (a - 1)) Q a k) Q (4 * (k + 1))) (4 * a) (fun n' => ?_) (fun n' i hi ih2 => ?_)
      · rw [wl_X10_smoothAll_61, ix4, nI_le']
        refine yes (by omega) (fun x hx => ?_)
        rw [hx, nI_4s]; exact ih
      · rw [wl_X10_smoothAll_61, ix4, nI_le', nI_32]
        have hr3 := smH_rel (Q := Q) (smHs_rel (Q := Q) hr2 k (by omega)) (y := 4 * (k + 1)) (by omega) i (by omega)
        have g0 := (hr3 i (4 * (k + 1) - 2) (by omega) (by omega)).2
        have g1 := (hr3 i (4 * (k + 1) - 1) (by omega) (by omega)).2
        have g3 := (hr3 i (4 * (k + 1) + 1) (by omega) (by omega)).2
        have e0 : 32 * (4 * (k + 1)) + i - 2 * 32 = 32 * (4 * (k + 1) - 2) + i := by omega
        have e1 : 32 * (4 * (k + 1)) + i - 32 = 32 * (4 * (k + 1) - 1) + i := by omega
        have e3 : 32 * (4 * (k + 1)) + i + 32 = 32 * (4 * (k + 1) + 1) + i := by omega
        refine nay (by omega) (t_X10_smooth (s := 32) (by omega) (by omega) (by rw [e0]; exact g0) (by rw [e1]; exact g1) (hr3 i (4 * (k + 1)) (by omega) (by omega)).2 (by rw [e3]; exact g3) (fun x hx => ?_))
        rw [hx, nI_1]; exact ih2
  · rw [wl_X10_smoothAll_2, ix4, nI_le']
    refine nay (by omega) ?_
    refine loopS (fun n' i g => wl_X10_smoothAll_14 (nI (4 * (k + 1))) (nI d) Q K (fun (v3_5 : Int32) (px_5 : (Nat → Int32)) => ∀ x2_6 : Int32, x2_6 = nI (4 * (k + 1)) + 4 → wl_X10_smoothAll_2 (nI a) (nI d) Q K (fun (v2_7 : Int32) (px_7 : (Nat → Int32)) => ∃ k : Nat, wl_X10_smoothAll_49 (nI a) (nI d) Q K (fun (v2_14 : Int32) (px_14 : (Nat → Int32)) => K px_14) k 4 px_7) n x2_6 px_5) n' (nI i) g) (smV (smVs f Q d k) Q (4 * (k + 1))) (4 * d) (fun n' => ?_) (fun n' i hi ih2 => ?_)
    · rw [wl_X10_smoothAll_14, ix4, nI_le']
      refine yes (by omega) (fun x hx => ?_)
      rw [hx, nI_4s]; exact ih
    · rw [wl_X10_smoothAll_14, ix4, nI_le', nI_32]
      have hr3 := smV_rel (Q := Q) (smVs_rel (Q := Q) hr k (by omega)) (x := 4 * (k + 1)) (by omega) i (by omega)
      have g0 := (hr3 (4 * (k + 1) - 2) i (by omega) (by omega)).2
      have g1 := (hr3 (4 * (k + 1) - 1) i (by omega) (by omega)).2
      have g3 := (hr3 (4 * (k + 1) + 1) i (by omega) (by omega)).2
      have e0 : 32 * i + 4 * (k + 1) - 2 * 1 = 32 * i + (4 * (k + 1) - 2) := by omega
      have e1 : 32 * i + 4 * (k + 1) - 1 = 32 * i + (4 * (k + 1) - 1) := by omega
      refine nay (by omega) (t_X10_smooth (s := 1) (by omega) (by omega) (by rw [e0]; exact g0) (by rw [e1]; exact g1) (hr3 (4 * (k + 1)) i (by omega) (by omega)).2 g3 (fun x hx => ?_))
      rw [hx, nI_1]; exact ih2
