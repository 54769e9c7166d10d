/-! constructors: they make cells; their start and end, calls of them -/
section JMK
variable {l : Launch} {D : va_G} {cI cB : ClassId} {tt : Nat × Nat × Nat} {y : MethodName} {ws ws' : List Cond} {rm : Room} {cc : ByteArray} {nL : Nat} {S : Type} {wd : va_W} {sz : Nat} {w1 : S → va_W} {av : List Value} {own : String}
theorem jm_cmet {post : S → Prop} {mc ms : Nat} (hy : plainName y.cls = true) (hw : ws = Cond.code y cc nL none :: ws') (ho : y.cls = own) (hnm : y.name = "<init>") (hn : (lg_sl av).length ≤ nL)
    (body : ∀ (p : Program) (e : Env) (s : State) (m : MethodId) (args : Array Value) (below : List Frame) (meth : Method) (c : Code) (A : Nat → Prop) (Q : State → Prop) (ls : Array Slot),
      jm_Ctx D cI cB tt ws own cc nL none A p s m args meth c → meth.name = "<init>" → va_P D vwCl wd s.heap → va_D A wd → lv_has ls nL (lv_args 0 av) →
      (∀ (u : S) (H : Heap) (locs : List Loc) (ls : Array Slot) (pc : Nat), decode cc pc = .ok (.return_, 1) → post u → va_P D vwCl (w1 u) H → va_D A (w1 u) → va_S A s.heap H locs → W p l e rm s m args below meth c H locs mc ms Q (F0 m pc ls [])) →
      W p l e rm s m args below meth c s.heap [] 0 0 Q (F0 m 0 ls [])) :
    Met l y ws rm (va_Pc av (jm_Pre D cI cB tt wd sz)) (va_Qv post (jm_Post D cI cB wd sz w1) (va_A wd sz)) mc ms (va_A wd sz) := by
  refine Met.ofW (cc := cc) (maxL := nL) (ret := none) hy hw ?_
  intro p e s m args below meth c s₁ B hml hv
  obtain ⟨rfl, hsz, hP, hK, hD0, hE⟩ := hv
  have hts := atoms_spec (ws := ws) B.pre
  have hown : s.vm.findClass own = some m.cls := ho ▸ findClass_of_methodNamed B.named
  have hlocks := B.notSynchronized
  have hin : meth.name = "<init>" := ((name_of_methodNamed B.named B.method).1).trans hnm
  subst hsz
  have hD := hD0.self (sz := s.heap.size)
  have hA : ∀ q : Nat, s.heap.size ≤ q → va_A wd s.heap.size q := fun q h => Or.inr h
  have hl := lv_entry av (n := nL) hn
  rw [lg_entry_eq]
  refine body p e s m _ below meth c _ _ _ ⟨B.exec, B.bytes, hml, B.returns, hown, hts, hlocks, hA, hK, hE⟩ hin hP hD hl ?_
  intro u H locs ls pc hd hp hP1 hD1 hS
  exact W.vret B.exec B.bytes B.returns (fun t ht hW => ⟨⟨u, rfl, hp, by rw [ht]; exact hP1, va_K.moved hW.alike hK, hD1⟩, hS.F ht⟩) hS.2.2 hd
end JMK
section JMN
variable {p : Program} {l : Launch} {e : Env} {R : Room} {s : State} {m : MethodId} {args : Array Value} {below : List Frame} {meth : Method} {c : Code} {H : Heap} {locs : List Loc} {Q : State → Prop} {pc : Nat} {ls : Array Slot} {rest st0 : List Value} {A : Nat → Prop} {cells slots mc ms : Nat} {cc : ByteArray}
variable {D : va_G} {cI cB : ClassId} {tt : Nat × Nat × Nat} {ws wc wr : va_W} {S : Type} {w1 : S → va_W}
/-- a call that answers nothing and may make cells -/
theorem jm_ccall {post : S → Prop} {a : Array Value} (hr : va_Run p l e R s m args below meth c H locs cells slots mc ms (F0 m pc ls st0) rest (va_Qv post (jm_Post D cI cB wc H.size w1) (va_A wc H.size) a) (va_A wc H.size)) (hS : va_S A s.heap H locs)
    (hP : va_P D vwCl ws H) (hD : va_D A ws) (isC isR : List Nat) (hC : isC.map (fun i => ws[i]?) = wc.map some) (hR : isR.map (fun i => ws[i]?) = wr.map some) (hn : va_nd isR = true) (hdis : ∀ i ∈ isR, i ∉ isC) (hF : ∀ q, va_A wc H.size q → A q)
    (kk : ∀ (u : S) (H1 : Heap) (locs1 : List Loc), post u → va_P D vwCl (wr ++ w1 u) H1 → va_D A (wr ++ w1 u) → va_S A s.heap H1 locs1 → W p l e R s m args below meth c H1 locs1 (cells + mc) (slots + ms) Q (F0 m (pc + 3) ls rest)) :
    W p l e R s m args below meth c H locs cells slots Q (F0 m pc ls st0) := by
  refine va_callv hr hS (fun q _ h => hF q h) hF (fun u t H1 locs1 ht hvm hw hB hz1 hk1 hS1 => ?_)
  obtain ⟨hP1, hD1⟩ := jm_back hP hD isC isR hC hR hn hdis hF ht hk1 hB
  exact kk u H1 locs1 hw hP1 hD1 hS1
theorem jm_newI (N : Nat) {n : Int32} (hx : p.tables.exec = Jvm.exec) (hb : c.code = cc) (harr : (Cond.arrayClass .int).before args s = true) (hK : va_K D vwCl (jm_tys cI cB) s) (hP : va_P D vwCl ws H) (hD : va_D A ws) (hS : va_S A s.heap H locs) (hA : ∀ q : Nat, s.heap.size ≤ q → A q)
    (hn : ¬ n < 0) (hN : n.toNatClampNeg = N) (hN2 : N ≤ 8000) (hcells : cells + 1 ≤ R.cells) (hslots : slots + N ≤ R.slots) (hdg : decode cc pc = .ok (.newarray .int, 2))
    (kk : ∀ (q : Nat) (H1 : Heap), va_P D vwCl (ws ++ [(q, .inl (cI, N, .inl (fun _ => 0)))]) H1 → va_D A (ws ++ [(q, .inl (cI, N, .inl (fun _ => 0)))]) → va_S A s.heap H1 locs → W p l e R s m args below meth c H1 locs (cells + 1) (slots + N) Q (F0 m (pc + 2) ls (.ref q :: rest))) :
    W p l e R s m args below meth c H locs cells slots Q (F0 m pc ls (.int n :: rest)) := by
  refine va_newa (atype := .int) (ty := .int) (N' := N) (a0 := (N, .inl (fun _ => 0))) hx hb harr rfl hK hP hD hS hA (fun cA => rfl) hn hN (by show N * 4 ≤ _; omega) hcells hslots hdg (fun q cA H1 hK1 hP1 hD1 hS1 => ?_)
  have e1 : s.vm.findClass ("[" ++ FieldType.int.toString) = some cA := (hK1.2 2 (cA, .int) rfl).2
  have e2 : s.vm.findClass ("[" ++ FieldType.int.toString) = some cI := (hK.2 0 (cI, .int) rfl).2
  cases Option.some.inj (e1.symm.trans e2)
  exact kk q H1 hP1 hD1 hS1
theorem jm_newB (N : Nat) {n : Int32} (hx : p.tables.exec = Jvm.exec) (hb : c.code = cc) (harr : (Cond.arrayClass .byte).before args s = true) (hK : va_K D vwCl (jm_tys cI cB) s) (hP : va_P D vwCl ws H) (hD : va_D A ws) (hS : va_S A s.heap H locs) (hA : ∀ q : Nat, s.heap.size ≤ q → A q)
    (hn : ¬ n < 0) (hN : n.toNatClampNeg = N) (hN2 : N ≤ 8000) (hcells : cells + 1 ≤ R.cells) (hslots : slots + N ≤ R.slots) (hdg : decode cc pc = .ok (.newarray .byte, 2))
    (kk : ∀ (q : Nat) (H1 : Heap), va_P D vwCl (ws ++ [(q, .inl (cB, N, .inl (fun _ => 0)))]) H1 → va_D A (ws ++ [(q, .inl (cB, N, .inl (fun _ => 0)))]) → va_S A s.heap H1 locs → W p l e R s m args below meth c H1 locs (cells + 1) (slots + N) Q (F0 m (pc + 2) ls (.ref q :: rest))) :
    W p l e R s m args below meth c H locs cells slots Q (F0 m pc ls (.int n :: rest)) := by
  refine va_newa (atype := .byte) (ty := .byte) (N' := N) (a0 := (N, .inl (fun _ => 0))) hx hb harr rfl hK hP hD hS hA (fun cA => rfl) hn hN (by show N * 1 ≤ _; omega) hcells hslots hdg (fun q cA H1 hK1 hP1 hD1 hS1 => ?_)
  have e1 : s.vm.findClass ("[" ++ FieldType.byte.toString) = some cA := (hK1.2 2 (cA, .byte) rfl).2
  have e2 : s.vm.findClass ("[" ++ FieldType.byte.toString) = some cB := (hK.2 1 (cB, .byte) rfl).2
  cases Option.some.inj (e1.symm.trans e2)
  exact kk q H1 hP1 hD1 hS1
end JMN
/-! a plan that has been cleared -/
theorem t_X4_clear_22 {K : Int32 → Int32 → Int32 → Int32 → (Nat → Int32) → (Nat → Int32) → Prop} {X : Int32 → (Nat → Int32) → Prop} (hX : ∀ v lm, (∀ j, j < 64 → lm j = -1) → X v lm) :
    ∀ (d i n : Nat) (lm : Nat → Int32), i + d = 64 → d < n → (∀ j, j < i → lm j = -1) → wl_X4_clear_22 K X n (nI i) lm := by
  intro d
  induction d with
  | zero =>
    intro i n lm hi hn h
    obtain ⟨n, rfl⟩ : ∃ k, n = k + 1 := ⟨n - 1, by omega⟩
    rw [wl_X4_clear_22]
    have hi : i = 64 := by omega
    subst hi
    exact ⟨fun _ => hX _ _ h, fun c => absurd (by decide) c⟩
  | succ d ih =>
    intro i n lm hi hn h
    obtain ⟨n, rfl⟩ : ∃ k, n = k + 1 := ⟨n - 1, by omega⟩
    rw [wl_X4_clear_22]
    refine ⟨fun c => absurd c (nI_ge (a := i) (b := 64) (by omega) (by decide)), fun _ => ⟨vp_in_nI (by omega) (by decide), fun x hx => ?_⟩⟩
    rw [hx, nI_1]
    refine ih (i + 1) n _ (by omega) (by omega) (fun j hj => ?_)
    show upd lm (nI i).toNatClampNeg (-1) j = -1
    rw [nI_clamp (by omega)]
    by_cases hji : j = i
    · rw [hji]; exact pk_us
    · rw [pk_un hji]; exact h j (by omega)
theorem t_X4_clear_46 {K : Int32 → Int32 → Int32 → Int32 → (Nat → Int32) → (Nat → Int32) → Prop} {X : Int32 → (Nat → Int32) → Prop} (hX : ∀ v lv, (∀ j, j < 1024 → lv j = 0) → X v lv) :
    ∀ (d i n : Nat) (lv : Nat → Int32), i + d = 1024 → d < n → (∀ j, j < i → lv j = 0) → wl_X4_clear_46 K X n (nI i) lv := by
  intro d
  induction d with
  | zero =>
    intro i n lv hi hn h
    obtain ⟨n, rfl⟩ : ∃ k, n = k + 1 := ⟨n - 1, by omega⟩
    rw [wl_X4_clear_46]
    have hi : i = 1024 := by omega
    subst hi
    exact ⟨fun _ => hX _ _ h, fun c => absurd (by decide) c⟩
  | succ d ih =>
    intro i n lv hi hn h
    obtain ⟨n, rfl⟩ : ∃ k, n = k + 1 := ⟨n - 1, by omega⟩
    rw [wl_X4_clear_46]
    refine ⟨fun c => absurd c (nI_ge (a := i) (b := 1024) (by omega) (by decide)), fun _ => ⟨vp_in_nI (by omega) (by decide), fun x hx => ?_⟩⟩
    rw [hx, nI_1]
    refine ih (i + 1) n _ (by omega) (by omega) (fun j hj => ?_)
    show upd lv (nI i).toNatClampNeg 0 j = 0
    rw [nI_clamp (by omega)]
    by_cases hji : j = i
    · rw [hji]; exact pk_us
    · rw [pk_un hji]; exact h j (by omega)
theorem t_X4_clear {la ld lq lz : Int32} {lm lv : Nat → Int32} {v1 v2 : Int32} {K : Int32 → Int32 → Int32 → Int32 → (Nat → Int32) → (Nat → Int32) → Prop}
    (h : ∀ lm' lv', (∀ j, j < 64 → lm' j = -1) → (∀ j, j < 1024 → lv' j = 0) → K v1 v2 0 0 lm' lv') : wp_X4_clear la ld lq lz lm lv v1 v2 K := by
  refine ⟨65, t_X4_clear_22 (fun _ lm' h1 => ⟨1025, t_X4_clear_46 (fun _ lv' h2 => h lm' lv' h1 h2) 1024 0 1025 lv rfl (by decide) (fun j hj => absurd hj (by omega))⟩) 64 0 65 lm rfl (by decide) (fun j hj => absurd hj (by omega))⟩
