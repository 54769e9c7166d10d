/-! the law's loop: class and model answer alike at every call -/
theorem lg_same {x y : Int64} (h : x = y) : lg_cmp x y = 0 := (lg_cmp_eq x y).mpr h
theorem yes_iff {c A B : Prop} (hc : c) : ((c → A) ∧ (¬ c → B)) ↔ A := ⟨fun h => h.1 hc, fun h => yes hc h⟩
theorem nay_iff {c A B : Prop} (hc : ¬ c) : ((c → A) ∧ (¬ c → B)) ↔ B := ⟨fun h => h.2 hc, fun h => nay hc h⟩
theorem law_go (xs : Nat → Int32) (L : Nat) (hL : L ≤ 2560) : ∀ (n k : Nat), n + k = 513 → k ≤ 512 → ∀ {pa : Int32} {pd : Int32} {px : Nat → Int32} {fa : Int32} {ff : Int32} {fm : Int32} {fl : Nat → Int32} {mt : Nat → Int32} {tc : Nat → Int32} {sc : Int32} {sb : Nat → Int32} {wo : Int32} {wb : Int32} {rn : Int32} {rf : Int32} {rp : Int32} {la : Int32} {ld : Int32} {lq : Int32} {lz : Int32} {lm : Nat → Int32} {lv : Nat → Int32} {ua : Int32} {ud : Int32} {uq : Int32} {uz : Int32} {um : Nat → Int32} {uv : Nat → Int32} {ma : Int32} {md : Int32} {mq : Int32} {mz : Int32} {msz : Int32} {mat : Int32} {mpl : Int32} {mfa : Int32} {mth : Int32} {mpic : Nat → Int32} {mgiv : Nat → Int32} {mkep : Nat → Int32} {mmod : Nat → Int32} {mcoe : Nat → Int32} {mnmo : Nat → Int32} {mnco : Nat → Int32} {mby : Nat → Int32} {mwk : Nat → Int32} {lo : Nat → Int64}, Rel pa pd px sc sb rp la ld lq lz lm lv ma md mq mz msz mpl mpic mmod mcoe mby → wl_law xs L n k (nI (5 * k)) pa pd px fa ff fm fl mt tc sc sb wo wb rn rf rp la ld lq lz lm lv ua ud uq uz um uv ma md mq mz msz mat mpl mfa mth mpic mgiv mkep mmod mcoe mnmo mnco mby mwk lo := by
  intro n
  induction n with
  | zero => intro k h1 h2; omega
  | succ n ih =>
    intro k h1 h2 pa pd px fa ff fm fl mt tc sc sb wo wb rn rf rp la ld lq lz lm lv ua ud uq uz um uv ma md mq mz msz mat mpl mfa mth mpic mgiv mkep mmod mcoe mnmo mnco mby mwk lo hR
    rw [wl_law]
    refine ⟨fun _ => trivial, fun hg => ?_⟩
    have hk : 5 * k + 5 ≤ L := by
      have e5 : nI L - 5 = zI ((L : Int) - 5) := by
        have : (5 : Int32) = zI 5 := rfl
        rw [this, zI_nat, zI_sub]
      rw [e5, zI_nat, zI_lt (by omega)] at hg
      omega
    have nx : ∀ {pa : Int32} {pd : Int32} {px : Nat → Int32} {fa : Int32} {ff : Int32} {fm : Int32} {fl : Nat → Int32} {mt : Nat → Int32} {tc : Nat → Int32} {sc : Int32} {sb : Nat → Int32} {wo : Int32} {wb : Int32} {rn : Int32} {rf : Int32} {rp : Int32} {la : Int32} {ld : Int32} {lq : Int32} {lz : Int32} {lm : Nat → Int32} {lv : Nat → Int32} {ua : Int32} {ud : Int32} {uq : Int32} {uz : Int32} {um : Nat → Int32} {uv : Nat → Int32} {ma : Int32} {md : Int32} {mq : Int32} {mz : Int32} {msz : Int32} {mat : Int32} {mpl : Int32} {mfa : Int32} {mth : Int32} {mpic : Nat → Int32} {mgiv : Nat → Int32} {mkep : Nat → Int32} {mmod : Nat → Int32} {mcoe : Nat → Int32} {mnmo : Nat → Int32} {mnco : Nat → Int32} {mby : Nat → Int32} {mwk : Nat → Int32} {lo : Nat → Int64}, Rel pa pd px sc sb rp la ld lq lz lm lv ma md mq mz msz mpl mpic mmod mcoe mby → ∀ x : Int32, x = nI (5 * k) + 5 → wl_law xs L n (k + 1) x pa pd px fa ff fm fl mt tc sc sb wo wb rn rf rp la ld lq lz lm lv ua ud uq uz um uv ma md mq mz msz mat mpl mfa mth mpic mgiv mkep mmod mcoe mnmo mnco mby mwk lo := by
      intro pa pd px fa ff fm fl mt tc sc sb wo wb rn rf rp la ld lq lz lm lv ua ud uq uz um uv ma md mq mz msz mat mpl mfa mth mpic mgiv mkep mmod mcoe mnmo mnco mby mwk lo hR' x hx
      have e5 : nI (5 * k) + 5 = nI (5 * (k + 1)) := nI_add (5 * k) 5
      rw [hx, e5]
      exact ih (k + 1) (by omega) (by omega) hR'
    have v1 : vp_in (nI (5 * k) + 1) L := by rw [nI_1]; exact nI_in'
    have v2 : vp_in (nI (5 * k) + 2) L := by
      have e : nI (5 * k) + 2 = nI (5 * k + 2) := nI_add (5 * k) 2
      rw [e]; exact nI_in'
    have v3 : vp_in (nI (5 * k) + 3) L := by
      have e : nI (5 * k) + 3 = nI (5 * k + 3) := nI_add (5 * k) 3
      rw [e]; exact nI_in'
    have v4 : vp_in (nI (5 * k) + 4) L := by
      have e : nI (5 * k) + 4 = nI (5 * k + 4) := nI_add (5 * k) 4
      rw [e]; exact nI_in'
    have hRp : rp = mpl := hR.choose_spec.choose_spec.2.2.2.2.2
    refine ⟨by omega, by omega, nI_in', fun key hkey => ?_⟩
    clear hkey hg
    generalize nI (5 * k) = w at *
    refine ⟨fun _ => ?_, fun _ => ⟨fun _ => ?_, fun _ => ⟨fun _ => ?_, fun _ => ⟨fun _ => ?_, fun _ => ⟨fun _ => ?_, fun _ => ⟨fun _ => ?_, fun _ => ⟨fun _ => ?_, fun _ => ⟨fun _ => ?_, fun _ => ⟨fun _ => ?_, fun _ => ⟨fun _ => ?_, fun _ => ⟨fun _ => ?_, fun _ => ⟨fun _ => ?_, fun _ => ⟨fun _ => ?_, fun _ => ?_⟩⟩⟩⟩⟩⟩⟩⟩⟩⟩⟩⟩⟩
    · exact ⟨v1, v2, s_begin (Vw := fun P => vp_in (w + 1) L ∧ vp_in (w + 2) L ∧ P) (fun P p => ⟨v1, v2, p⟩) hR (fun r pa' pd' px' la' ld' lq' lz' lm' lv' ma' md' mq' mz' mth' mpic' mmod' mcoe' hth hR' => ⟨fun _ => nx hR', fun c => c hth⟩)⟩
    · exact ⟨v1, v2, v3, s_put (Vw := fun P => vp_in (w + 1) L ∧ vp_in (w + 2) L ∧ vp_in (w + 3) L ∧ P) (fun P p => ⟨v1, v2, v3, p⟩) hR (fun r px' mth' mpic' hth hR' => ⟨fun _ => nx hR', fun c => c hth⟩)⟩
    · exact ⟨v1, v2, s_pixel (Vw := fun P => vp_in (w + 1) L ∧ vp_in (w + 2) L ∧ P) (fun P p => ⟨v1, v2, p⟩) hR (fun r r' mth' hr => ⟨fun _ => nx hR, fun c => c hr⟩)⟩
    · refine ⟨v1, v2, ?_⟩
      unfold jn1
      by_cases hz : jat xs (w + 2) = 0
      · simp only [yes_iff hz]
        exact s_pack (z := 0) (Vw := fun P => vp_in (w + 1) L ∧ vp_in (w + 2) L ∧ P) (fun P p => ⟨v1, v2, p⟩) (by decide) hR (fun r px' fa' ff' fm' fl' mt' tc' sc' sb' wo' wb' lq' lz' lm' lv' lo' b mq' mz' msz' mat' mth' mpic' mgiv' mmod' mcoe' mby' mwk' hth hlo hR' => ⟨fun _ => ⟨fun h0 => ⟨fun _ => nx hR', fun c => c (lg_same (hlo h0))⟩, fun _ => nx hR'⟩, fun c => c hth⟩)
      · simp only [nay_iff hz]
        exact s_pack (z := 1) (Vw := fun P => vp_in (w + 1) L ∧ vp_in (w + 2) L ∧ P) (fun P p => ⟨v1, v2, p⟩) (by decide) hR (fun r px' fa' ff' fm' fl' mt' tc' sc' sb' wo' wb' lq' lz' lm' lv' lo' b mq' mz' msz' mat' mth' mpic' mgiv' mmod' mcoe' mby' mwk' hth hlo hR' => ⟨fun _ => ⟨fun h0 => ⟨fun _ => nx hR', fun c => c (lg_same (hlo h0))⟩, fun _ => nx hR'⟩, fun c => c hth⟩)
    · exact s_unpack hR (fun r sw pa' pd' px' fa' ff' fm' fl' mt' tc' rn' rf' rp' la' ld' lq' lz' lm' lv' ua' ud' uq' uz' um' uv' r' ma' md' mq' mz' mat' mpl' mfa' mth' mpic' mkep' mmod' mcoe' mnmo' mnco' mwk' hr hR' => ⟨fun _ => nx hR', fun c => c hr⟩)
    · exact s_place hRp (fun r r' mth' hr => ⟨fun _ => nx hR, fun c => c hr⟩)
    · exact ⟨v1, s_feed (Vw := fun P => vp_in (w + 1) L ∧ P) (fun P p => ⟨v1, p⟩) hR (fun r sc' sb' lo' b msz' mth' mby' hth hlo hR' => ⟨fun _ => ⟨fun h0 => ⟨fun _ => nx hR', fun c => c (lg_same (hlo h0))⟩, fun _ => nx hR'⟩, fun c => c hth⟩)⟩
    · exact ⟨v1, s_end (Vw := fun P => vp_in (w + 1) L ∧ P) (fun P p => ⟨v1, p⟩) hR (fun r sc' msz' mth' hth hR' => ⟨fun _ => nx hR', fun c => c hth⟩)⟩
    · exact ⟨v1, v2, s_alter (Vw := fun P => vp_in (w + 1) L ∧ vp_in (w + 2) L ∧ P) (fun P p => ⟨v1, v2, p⟩) hR (fun r sb' lo' b mth' mby' hth hlo hR' => ⟨fun _ => ⟨fun h0 => ⟨fun _ => nx hR', fun c => c (lg_same (hlo h0))⟩, fun _ => nx hR'⟩, fun c => c hth⟩)⟩
    · exact ⟨v1, s_bits (Vw := fun P => vp_in (w + 1) L ∧ P) (fun P p => ⟨v1, p⟩) hR (fun r r' mth' hr => ⟨fun _ => nx hR, fun c => c hr⟩)⟩
    · exact ⟨v1, v2, s_block (Vw := fun P => vp_in (w + 1) L ∧ vp_in (w + 2) L ∧ P) (fun P p => ⟨v1, v2, p⟩) hR (fun r lo' b mth' hth hlo => ⟨fun _ => ⟨fun h0 => ⟨fun _ => nx hR, fun c => c (lg_same (hlo h0))⟩, fun _ => nx hR⟩, fun c => c hth⟩)⟩
    · exact ⟨v1, v2, v3, v4, s_foretold (Vw := fun P => vp_in (w + 1) L ∧ vp_in (w + 2) L ∧ vp_in (w + 3) L ∧ vp_in (w + 4) L ∧ P) (fun P p => ⟨v1, v2, v3, v4, p⟩) hR (fun r fa' ff' fm' fl' lo' b mth' hth hlo => ⟨fun _ => ⟨fun h0 => ⟨fun _ => nx hR, fun c => c (lg_same (hlo h0))⟩, fun _ => nx hR⟩, fun c => c hth⟩)⟩
    · exact ⟨v1, s_about (Vw := fun P => vp_in (w + 1) L ∧ P) (fun P p => ⟨v1, p⟩) hR (fun r lo' b mth' hth hlo => ⟨fun _ => ⟨fun h0 => ⟨fun _ => nx hR, fun c => c (lg_same (hlo h0))⟩, fun _ => nx hR⟩, fun c => c hth⟩)⟩
    · exact nx hR
theorem law_pure (xs : Nat → Int32) (L : Nat) (hL : L ≤ 2560) : ∀ lm9 lv9 : Nat → Int32, (∀ j, j < 64 → lm9 j = -1) → (∀ j, j < 1024 → lv9 j = 0) → wl_law xs L 513 0 0 1 1 (fun _ => 0) 0 0 0 (fun _ => 0) (fun _ => 0) (fun _ => 0) 0 (fun _ => 0) 0 0 0 0 (-1) 1 1 0 0 lm9 lv9 1 1 0 0 (fun _ => 0) (fun _ => 0) 1 1 0 0 0 0 (-1) 0 0 (fun _ => 0) (fun _ => 0) (fun _ => 0) (jup (fun _ => 0) 0 (-1)) (fun _ => 0) (fun _ => 0) (fun _ => 0) (fun _ => 0) (fun _ => 0) (fun _ => 0) := by
  intro lm9 lv9 h1 h2
  refine law_go xs L hL 513 0 rfl (by decide) ⟨1, 1, ⟨⟨by decide, by decide, by decide, by decide⟩, rfl, rfl, rfl, rfl, rfl, rfl⟩, fun x y hx hy => ⟨rfl, pOk0⟩, ⟨fun b hb => ?_, fun i hi => h2 i (by omega)⟩, ⟨⟨0, by decide, rfl⟩, rfl, rfl, Or.inl rfl⟩, ⟨0, by decide, rfl, rfl, fun i hi => absurd hi (by omega)⟩, rfl⟩
  have : b = 0 := by omega
  subst this
  exact (h1 0 (by decide)).trans rfl
