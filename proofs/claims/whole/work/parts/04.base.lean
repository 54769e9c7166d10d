/-! the ground on which the walks stand: the class's surroundings (nest links, static rows), a method's start and end, calls -/
abbrev jm_NF : Type := String × Nat × String × String × String
def jm_nf : List jm_NF := [("IntraMill", 100, "IntraMill$Plan", "smooth", "Z"), ("IntraMill", 120, "IntraMill$Store", "count", "I"), ("IntraMill", 130, "IntraMill$Plan", "across", "I"), ("IntraMill", 131, "IntraMill$Plan", "down", "I"), ("IntraMill", 150, "IntraMill$Plan", "modes", "[I"), ("IntraMill", 154, "IntraMill$Plan", "levels", "[I"), ("IntraMill", 79, "IntraMill$Picture", "across", "I"), ("IntraMill", 83, "IntraMill$Picture", "down", "I"), ("IntraMill", 97, "IntraMill$Plan", "qp", "I"), ("IntraMill$BitReader", 25, "IntraMill$Store", "count", "I"), ("IntraMill$BlockMill", 52, "IntraMill$Transform", "cells", "[I"), ("IntraMill$BlockMill", 59, "IntraMill$Plan", "modes", "[I"), ("IntraMill$BlockMill", 64, "IntraMill$Plan", "levels", "[I"), ("IntraMill$BlockMill", 67, "IntraMill$Plan", "qp", "I"), ("IntraMill$Foretelling", 54, "IntraMill$Picture", "across", "I"), ("IntraMill$PlanReader", 20, "IntraMill$BitReader", "fault", "I"), ("IntraMill$PlanReader", 24, "IntraMill$BitReader", "faultPlace", "I"), ("IntraMill$PlanReader", 63, "IntraMill$Plan", "qp", "I"), ("IntraMill$PlanReader", 66, "IntraMill$Plan", "smooth", "Z"), ("IntraMill$PlanReader", 73, "IntraMill$Plan", "modes", "[I"), ("IntraMill$PlanReader", 77, "IntraMill$BitReader", "next", "I"), ("IntraMill$PlanReader", 97, "IntraMill$Plan", "levels", "[I"), ("IntraMill$PlanWriter", 15, "IntraMill$Store", "count", "I"), ("IntraMill$PlanWriter", 27, "IntraMill$Plan", "across", "I"), ("IntraMill$PlanWriter", 36, "IntraMill$Plan", "down", "I"), ("IntraMill$PlanWriter", 39, "IntraMill$Plan", "qp", "I"), ("IntraMill$PlanWriter", 42, "IntraMill$Plan", "smooth", "Z"), ("IntraMill$PlanWriter", 54, "IntraMill$Plan", "modes", "[I"), ("IntraMill$PlanWriter", 65, "IntraMill$Plan", "levels", "[I"), ("IntraMill$Transform", 15, "IntraMill", "ORDER", "[I"), ("IntraMill$Transform", 18, "IntraMill", "BACK_FACTORS", "[I"), ("IntraMill$Transform", 38, "IntraMill", "FORTH_FACTORS", "[I")]
def jm_nm : List (String × Nat × MethodName) := [("IntraMill", 36, ⟨"IntraMill$Store", "<init>", "()V"⟩), ("IntraMill", 59, ⟨"IntraMill$Plan", "<init>", "()V"⟩), ("IntraMill", 9, ⟨"IntraMill$Picture", "<init>", "()V"⟩), ("IntraMill$BlockMill", 103, ⟨"IntraMill", "bring", "(III)I"⟩), ("IntraMill$BlockMill", 25, ⟨"IntraMill$Transform", "<init>", "()V"⟩), ("IntraMill$Foretelling", 60, ⟨"IntraMill", "hasNeeded", "(IZZ)Z"⟩), ("IntraMill$Picture", 32, ⟨"IntraMill", "bring", "(III)I"⟩), ("IntraMill$PlanReader", 87, ⟨"IntraMill", "hasNeeded", "(IZZ)Z"⟩)]
def jm_ORDER (j : Nat) : Int32 := [0, 1, 4, 8, 5, 2, 3, 6, 9, 12, 13, 10, 7, 11, 14, 15].getD j 0
def jm_BACK (j : Nat) : Int32 := [10, 13, 16, 11, 14, 18, 13, 16, 20, 14, 18, 23, 16, 20, 25, 18, 23, 29].getD j 0
def jm_FORTH (j : Nat) : Int32 := [13107, 8066, 5243, 11916, 7490, 4660, 10082, 6554, 4194, 9362, 5825, 3647, 8192, 5243, 3355, 7282, 4559, 2893].getD j 0
def jm_Env (tt : Nat × Nat × Nat) (A : Nat → Prop) (U : State) (H : Heap) : Prop :=
  (∀ q ∈ jm_nf, va_Nw (.fieldLinkNest q.1 q.2.1 q.2.2.1 q.2.2.2.1 q.2.2.2.2 "IntraMill") U) ∧ (∀ q ∈ jm_nm, va_Nw (.methodLinkNest q.1 q.2.1 q.2.2 "IntraMill") U) ∧
  (va_Z "IntraMill" "ORDER" "[I" (.ref tt.1) A U H ∧ va_T .int tt.1 16 (fun j => .int (jm_ORDER j)) A U H) ∧
  (va_Z "IntraMill" "BACK_FACTORS" "[I" (.ref tt.2.1) A U H ∧ va_T .int tt.2.1 18 (fun j => .int (jm_BACK j)) A U H) ∧
  (va_Z "IntraMill" "FORTH_FACTORS" "[I" (.ref tt.2.2) A U H ∧ va_T .int tt.2.2 18 (fun j => .int (jm_FORTH j)) A U H)
theorem jm_Env.call {tt : Nat × Nat × Nat} {A B : Nat → Prop} {s U : State} {H : Heap} {locs : List Loc} (h : jm_Env tt A s s.heap) (hS : va_S A s.heap H locs) (hAB : ∀ q, B q → A q) (hW : s.WarmedH U.vm) (hU : U.heap = H) : jm_Env tt B U U.heap := by
  obtain ⟨h1, h2, ⟨a1, a2⟩, ⟨b1, b2⟩, c1, c2⟩ := h
  rw [hU]
  exact ⟨fun q hq => va_Nw.warmF hW (h1 q hq), fun q hq => va_Nw.warmM hW (h2 q hq),
    ⟨((a1.kept hS.2.1).narrow hAB).moved hW.alike, ((a2.kept hS.2.1).narrow hAB).moved hW.alike⟩,
    ⟨((b1.kept hS.2.1).narrow hAB).moved hW.alike, ((b2.kept hS.2.1).narrow hAB).moved hW.alike⟩,
    ⟨((c1.kept hS.2.1).narrow hAB).moved hW.alike, ((c2.kept hS.2.1).narrow hAB).moved hW.alike⟩⟩
theorem jm_Env.blind {tt : Nat × Nat × Nat} {A : Nat → Prop} {U : State} (a : Array Value) (g : JFrame) (mk : MethodId) (h : jm_Env tt A U U.heap) : jm_Env tt A (U.calling g mk a) (U.calling g mk a).heap := by
  obtain ⟨h1, h2, ⟨a1, a2⟩, ⟨b1, b2⟩, c1, c2⟩ := h
  have hv : U.vm.Alike (U.calling g mk a).vm := Vm.Alike.refl U.vm
  exact ⟨fun q hq => va_Nw.same rfl rfl (h1 q hq), fun q hq => va_Nw.same rfl rfl (h2 q hq), ⟨a1.moved hv, a2.moved hv⟩, ⟨b1.moved hv, b2.moved hv⟩, ⟨c1.moved hv, c2.moved hv⟩⟩
abbrev jm_tys (cI cB : ClassId) : List (ClassId × FieldType) := [(cI, .int), (cB, .byte)]
def jm_Pre (D : va_G) (cI cB : ClassId) (tt : Nat × Nat × Nat) (ws : va_W) (sz : Nat) (U : State) : Prop := U.heap.size = sz ∧ va_P D vwCl ws U.heap ∧ va_K D vwCl (jm_tys cI cB) U ∧ va_D (fun _ => True) ws ∧ jm_Env tt (va_A ws sz) U U.heap
def jm_Post {S : Type} (D : va_G) (cI cB : ClassId) (ws : va_W) (sz : Nat) (w1 : S → va_W) (u : S) (t : State) : Prop := va_P D vwCl (w1 u) t.heap ∧ va_K D vwCl (jm_tys cI cB) t ∧ va_D (va_A ws sz) (w1 u)
theorem jm_blind {D : va_G} {cI cB : ClassId} {tt : Nat × Nat × Nat} {ws : va_W} {sz : Nat} {av : List Value} : FrameBlind (va_Pc av (jm_Pre D cI cB tt ws sz)) := fun a U g mk q => by
  obtain ⟨q0, q1, qP, qK, qD, qE⟩ := q
  exact ⟨q0, q1, qP, va_K.moved (u := U) (U := U.calling g mk a) (Vm.Alike.refl U.vm) qK, qD, qE.blind a g mk⟩
/-- what a walk of a body has: the machine, the code, the words, its world, its surroundings -/
def jm_Ctx (D : va_G) (cI cB : ClassId) (tt : Nat × Nat × Nat) (ws : List Cond) (own : String) (cc : ByteArray) (nL : Nat) (ret : Option FieldType) (A : Nat → Prop) (p : Program) (s : State) (m : MethodId) (args : Array Value) (meth : Method) (c : Code) : Prop :=
  p.tables.exec = Jvm.exec ∧ c.code = cc ∧ c.maxLocals = nL ∧ meth.sig.returnType = ret ∧ s.vm.findClass own = some m.cls ∧ (∀ w ∈ ws, w.before args s = true) ∧ meth.locks = false ∧ (∀ q : Nat, s.heap.size ≤ q → A q) ∧ va_K D vwCl (jm_tys cI cB) s ∧ jm_Env tt A s s.heap
abbrev jm_i (r : Int32) : Option Value := some (.int r)
section JMA
variable {l : Launch} {D : va_G} {cI cB : ClassId} {tt : Nat × Nat × Nat} {y : MethodName} {ws ws' : List Cond} {rm : Room} {cc : ByteArray} {nL : Nat} {S : Type} {wd : va_W} {sz : Nat} {w1 : S → va_W} {av : List Value} {own : String}
theorem jm_metV {post : S → Prop} (hy : plainName y.cls = true) (hw : ws = Cond.code y cc nL none :: ws') (ho : y.cls = own) (hn : (lg_sl av).length ≤ nL)
    (body : ∀ (p : Program) (e : Env) (s : State) (m : MethodId) (args : Array Value) (below : List Frame) (meth : Method) (c : Code) (A : Nat → Prop) (Q : State → Prop) (ls : Array Slot),
      jm_Ctx D cI cB tt ws own cc nL none A p s m args meth c → va_P D vwCl wd s.heap → va_D A wd → lv_has ls nL (lv_args 0 av) →
      (∀ (u : S) (H : Heap) (locs : List Loc) (ls : Array Slot) (pc : Nat), decode cc pc = .ok (.return_, 1) → post u → va_P D vwCl (w1 u) H → va_D A (w1 u) → va_S A s.heap H locs → W p l e rm s m args below meth c H locs 0 0 Q (F0 m pc ls [])) →
      W p l e rm s m args below meth c s.heap [] 0 0 Q (F0 m 0 ls [])) :
    Met l y ws rm (va_Pc av (jm_Pre D cI cB tt wd sz)) (va_Qv post (jm_Post D cI cB wd sz w1) (va_A wd sz)) 0 0 (va_A wd sz) := by
  refine Met.ofW (cc := cc) (maxL := nL) (ret := none) hy hw ?_
  intro p e s m args below meth c s₁ B hml hv
  obtain ⟨rfl, hsz, hP, hK, hD0, hE⟩ := hv
  have hts := atoms_spec (ws := ws) B.pre
  have hown : s.vm.findClass own = some m.cls := ho ▸ findClass_of_methodNamed B.named
  have hlocks := B.notSynchronized
  subst hsz
  have hD := hD0.self (sz := s.heap.size)
  have hA : ∀ q : Nat, s.heap.size ≤ q → va_A wd s.heap.size q := fun q h => Or.inr h
  have hl := lv_entry av (n := nL) hn
  rw [lg_entry_eq]
  refine body p e s m _ below meth c _ _ _ ⟨B.exec, B.bytes, hml, B.returns, hown, hts, hlocks, hA, hK, hE⟩ hP hD hl ?_
  intro u H locs ls pc hd hp hP1 hD1 hS
  exact W.vret B.exec B.bytes B.returns (fun t ht hW => ⟨⟨u, rfl, hp, by rw [ht]; exact hP1, va_K.moved hW.alike hK, hD1⟩, hS.F ht⟩) hS.2.2 hd
theorem jm_metI {post : Int32 → S → Prop} {ty : FieldType} (hy : plainName y.cls = true) (hw : ws = Cond.code y cc nL (some ty) :: ws') (ho : y.cls = own) (hn : (lg_sl av).length ≤ nL)
    (body : ∀ (p : Program) (e : Env) (s : State) (m : MethodId) (args : Array Value) (below : List Frame) (meth : Method) (c : Code) (A : Nat → Prop) (Q : State → Prop) (ls : Array Slot),
      jm_Ctx D cI cB tt ws own cc nL (some ty) A p s m args meth c → va_P D vwCl wd s.heap → va_D A wd → lv_has ls nL (lv_args 0 av) →
      (∀ (v : Int32) (u : S) (H : Heap) (locs : List Loc) (ls : Array Slot) (pc : Nat), decode cc pc = .ok (.ireturn, 1) → narrow ty (.int v) = .int v → post v u → va_P D vwCl (w1 u) H → va_D A (w1 u) → va_S A s.heap H locs → W p l e rm s m args below meth c H locs 0 0 Q (F0 m pc ls [.int v])) →
      W p l e rm s m args below meth c s.heap [] 0 0 Q (F0 m 0 ls [])) :
    Met l y ws rm (va_Pc av (jm_Pre D cI cB tt wd sz)) (va_Qi post (jm_Post D cI cB wd sz w1) (va_A wd sz)) 0 0 (va_A wd sz) := by
  refine Met.ofW (cc := cc) (maxL := nL) (ret := some ty) hy hw ?_
  intro p e s m args below meth c s₁ B hml hv
  obtain ⟨rfl, hsz, hP, hK, hD0, hE⟩ := hv
  have hts := atoms_spec (ws := ws) B.pre
  have hown : s.vm.findClass own = some m.cls := ho ▸ findClass_of_methodNamed B.named
  have hlocks := B.notSynchronized
  subst hsz
  have hD := hD0.self (sz := s.heap.size)
  have hA : ∀ q : Nat, s.heap.size ≤ q → va_A wd s.heap.size q := fun q h => Or.inr h
  have hl := lv_entry av (n := nL) hn
  rw [lg_entry_eq]
  refine body p e s m _ below meth c _ _ _ ⟨B.exec, B.bytes, hml, B.returns, hown, hts, hlocks, hA, hK, hE⟩ hP hD hl ?_
  intro v u H locs ls pc hd hnr hp hP1 hD1 hS
  exact W.zret B.exec B.bytes B.returns hnr (fun t ht hW => ⟨⟨v, u, rfl, hp, by rw [ht]; exact hP1, va_K.moved hW.alike hK, hD1⟩, hS.F ht⟩) hS.2.2 hd
end JMA
section JMC
variable {p : Program} {l : Launch} {e : Env} {R : Room} {s : State} {m : MethodId} {args : Array Value} {below : List Frame} {meth : Method} {c : Code} {H : Heap} {locs : List Loc} {Q : State → Prop} {pc : Nat} {ls : Array Slot} {rest st0 : List Value} {A : Nat → Prop}
variable {D : va_G} {cI cB : ClassId} {tt : Nat × Nat × Nat} {ws wc wr wn : va_W} {S : Type} {w1 : S → va_W} {g : JFrame}
/-- behind a call of ours that makes nothing: what came back, beside the rest -/
theorem jm_back (hP : va_P D vwCl ws H) (hD : va_D A ws) (isC isR : List Nat) (hC : isC.map (fun i => ws[i]?) = wc.map some) (hR : isR.map (fun i => ws[i]?) = wr.map some) (hn : va_nd isR = true) (hdis : ∀ i ∈ isR, i ∉ isC) (hF : ∀ q, va_A wc H.size q → A q)
    {t : State} {H1 : Heap} {u : S} (ht : t.heap = H1) (hk1 : ∀ q : Nat, q < H.size → ¬ va_A wc H.size q → H1[q]? = H[q]?) (hB : jm_Post D cI cB wc H.size w1 u t) : va_P D vwCl (wr ++ w1 u) H1 ∧ va_D A (wr ++ w1 u) := by
  obtain ⟨hP1, -, hD1⟩ := hB
  rw [ht] at hP1
  exact va_join hP hD isC isR hC hR hn hdis hk1 hF hP1 hD1
theorem jm_pre (hK : va_K D vwCl (jm_tys cI cB) s) (hE : jm_Env tt A s s.heap) (hS : va_S A s.heap H locs) (hPc : va_P D vwCl wc H) (hDc : va_D A wc) (hF : ∀ q, va_A wc H.size q → A q) (av : List Value) : ∀ U : State, U.heap = H → s.WarmedH U.vm → va_Pc av (jm_Pre D cI cB tt wc H.size) av.toArray U :=
  fun U hU hW => ⟨rfl, by rw [hU], by rw [hU]; exact hPc, va_K.moved hW.alike hK, hDc.weaken (fun _ _ _ _ => trivial), hE.call hS hF hW hU⟩
/-- a call that answers an int -/
theorem jm_calli {post : Int32 → S → Prop} {a : Array Value} (hr : va_Run p l e R s m args below meth c H locs 0 0 0 0 (F0 m pc ls st0) rest (va_Qi post (jm_Post D cI cB wc H.size w1) (va_A wc H.size) a) (va_A wc H.size)) (hS : va_S A s.heap H locs)
    (hP : va_P D vwCl ws H) (hD : va_D A ws) (isC isR : List Nat) (hC : isC.map (fun i => ws[i]?) = wc.map some) (hR : isR.map (fun i => ws[i]?) = wr.map some) (hn : va_nd isR = true) (hdis : ∀ i ∈ isR, i ∉ isC) (hF : ∀ q, va_A wc H.size q → A q)
    (kk : ∀ (r : Int32) (u : S) (H1 : Heap) (locs1 : List Loc), post r u → va_P D vwCl (wr ++ w1 u) H1 → va_D A (wr ++ w1 u) → va_S A s.heap H1 locs1 → W p l e R s m args below meth c H1 locs1 0 0 Q (F0 m (pc + 3) ls (.int r :: rest))) :
    W p l e R s m args below meth c H locs 0 0 Q (F0 m pc ls st0) := by
  refine va_calli hr hS (fun q _ h => hF q h) hF (fun r u t H1 locs1 ht hvm hw hB hz1 hk1 hS1 => ?_)
  obtain ⟨hP1, hD1⟩ := jm_back hP hD isC isR hC hR hn hdis hF ht hk1 hB
  exact kk r u H1 locs1 hw hP1 hD1 hS1
/-- a call that answers nothing -/
theorem jm_callv {post : S → Prop} {a : Array Value} (hr : va_Run p l e R s m args below meth c H locs 0 0 0 0 (F0 m pc ls st0) rest (va_Qv post (jm_Post D cI cB wc H.size w1) (va_A wc H.size) a) (va_A wc H.size)) (hS : va_S A s.heap H locs)
    (hP : va_P D vwCl ws H) (hD : va_D A ws) (isC isR : List Nat) (hC : isC.map (fun i => ws[i]?) = wc.map some) (hR : isR.map (fun i => ws[i]?) = wr.map some) (hn : va_nd isR = true) (hdis : ∀ i ∈ isR, i ∉ isC) (hF : ∀ q, va_A wc H.size q → A q)
    (kk : ∀ (u : S) (H1 : Heap) (locs1 : List Loc), post u → va_P D vwCl (wr ++ w1 u) H1 → va_D A (wr ++ w1 u) → va_S A s.heap H1 locs1 → W p l e R s m args below meth c H1 locs1 0 0 Q (F0 m (pc + 3) ls rest)) :
    W p l e R s m args below meth c H locs 0 0 Q (F0 m pc ls st0) := by
  refine va_callv hr hS (fun q _ h => hF q h) hF (fun u t H1 locs1 ht hvm hw hB hz1 hk1 hS1 => ?_)
  obtain ⟨hP1, hD1⟩ := jm_back hP hD isC isR hC hR hn hdis hF ht hk1 hB
  exact kk u H1 locs1 hw hP1 hD1 hS1
end JMC
/-! joins: what stands behind a meeting of ways is said once -/
def jn0 (rest : Prop) (region : (Prop) → Prop) : Prop := region rest
theorem jn0_out {rest : Prop} {region : (Prop) → Prop} (h : jn0 rest region) : ∃ J : Prop, (J  → rest ) ∧ region J := ⟨rest, fun h => h, h⟩
def jn1 {A0 : Type} (rest : A0 → Prop) (region : (A0 → Prop) → Prop) : Prop := region rest
theorem jn1_out {A0 : Type} {rest : A0 → Prop} {region : (A0 → Prop) → Prop} (h : jn1 rest region) : ∃ J : A0 → Prop, (∀ a0, J a0 → rest a0) ∧ region J := ⟨rest, fun a0 => fun h => h, h⟩
def jn2 {A0 A1 : Type} (rest : A0 → A1 → Prop) (region : (A0 → A1 → Prop) → Prop) : Prop := region rest
theorem jn2_out {A0 A1 : Type} {rest : A0 → A1 → Prop} {region : (A0 → A1 → Prop) → Prop} (h : jn2 rest region) : ∃ J : A0 → A1 → Prop, (∀ a0 a1, J a0 a1 → rest a0 a1) ∧ region J := ⟨rest, fun a0 a1 => fun h => h, h⟩
def jn3 {A0 A1 A2 : Type} (rest : A0 → A1 → A2 → Prop) (region : (A0 → A1 → A2 → Prop) → Prop) : Prop := region rest
theorem jn3_out {A0 A1 A2 : Type} {rest : A0 → A1 → A2 → Prop} {region : (A0 → A1 → A2 → Prop) → Prop} (h : jn3 rest region) : ∃ J : A0 → A1 → A2 → Prop, (∀ a0 a1 a2, J a0 a1 a2 → rest a0 a1 a2) ∧ region J := ⟨rest, fun a0 a1 a2 => fun h => h, h⟩
def jn4 {A0 A1 A2 A3 : Type} (rest : A0 → A1 → A2 → A3 → Prop) (region : (A0 → A1 → A2 → A3 → Prop) → Prop) : Prop := region rest
theorem jn4_out {A0 A1 A2 A3 : Type} {rest : A0 → A1 → A2 → A3 → Prop} {region : (A0 → A1 → A2 → A3 → Prop) → Prop} (h : jn4 rest region) : ∃ J : A0 → A1 → A2 → A3 → Prop, (∀ a0 a1 a2 a3, J a0 a1 a2 a3 → rest a0 a1 a2 a3) ∧ region J := ⟨rest, fun a0 a1 a2 a3 => fun h => h, h⟩
def jn5 {A0 A1 A2 A3 A4 : Type} (rest : A0 → A1 → A2 → A3 → A4 → Prop) (region : (A0 → A1 → A2 → A3 → A4 → Prop) → Prop) : Prop := region rest
theorem jn5_out {A0 A1 A2 A3 A4 : Type} {rest : A0 → A1 → A2 → A3 → A4 → Prop} {region : (A0 → A1 → A2 → A3 → A4 → Prop) → Prop} (h : jn5 rest region) : ∃ J : A0 → A1 → A2 → A3 → A4 → Prop, (∀ a0 a1 a2 a3 a4, J a0 a1 a2 a3 a4 → rest a0 a1 a2 a3 a4) ∧ region J := ⟨rest, fun a0 a1 a2 a3 a4 => fun h => h, h⟩
def jn6 {A0 A1 A2 A3 A4 A5 : Type} (rest : A0 → A1 → A2 → A3 → A4 → A5 → Prop) (region : (A0 → A1 → A2 → A3 → A4 → A5 → Prop) → Prop) : Prop := region rest
theorem jn6_out {A0 A1 A2 A3 A4 A5 : Type} {rest : A0 → A1 → A2 → A3 → A4 → A5 → Prop} {region : (A0 → A1 → A2 → A3 → A4 → A5 → Prop) → Prop} (h : jn6 rest region) : ∃ J : A0 → A1 → A2 → A3 → A4 → A5 → Prop, (∀ a0 a1 a2 a3 a4 a5, J a0 a1 a2 a3 a4 a5 → rest a0 a1 a2 a3 a4 a5) ∧ region J := ⟨rest, fun a0 a1 a2 a3 a4 a5 => fun h => h, h⟩
def jn7 {A0 A1 A2 A3 A4 A5 A6 : Type} (rest : A0 → A1 → A2 → A3 → A4 → A5 → A6 → Prop) (region : (A0 → A1 → A2 → A3 → A4 → A5 → A6 → Prop) → Prop) : Prop := region rest
theorem jn7_out {A0 A1 A2 A3 A4 A5 A6 : Type} {rest : A0 → A1 → A2 → A3 → A4 → A5 → A6 → Prop} {region : (A0 → A1 → A2 → A3 → A4 → A5 → A6 → Prop) → Prop} (h : jn7 rest region) : ∃ J : A0 → A1 → A2 → A3 → A4 → A5 → A6 → Prop, (∀ a0 a1 a2 a3 a4 a5 a6, J a0 a1 a2 a3 a4 a5 a6 → rest a0 a1 a2 a3 a4 a5 a6) ∧ region J := ⟨rest, fun a0 a1 a2 a3 a4 a5 a6 => fun h => h, h⟩
def jn8 {A0 A1 A2 A3 A4 A5 A6 A7 : Type} (rest : A0 → A1 → A2 → A3 → A4 → A5 → A6 → A7 → Prop) (region : (A0 → A1 → A2 → A3 → A4 → A5 → A6 → A7 → Prop) → Prop) : Prop := region rest
theorem jn8_out {A0 A1 A2 A3 A4 A5 A6 A7 : Type} {rest : A0 → A1 → A2 → A3 → A4 → A5 → A6 → A7 → Prop} {region : (A0 → A1 → A2 → A3 → A4 → A5 → A6 → A7 → Prop) → Prop} (h : jn8 rest region) : ∃ J : A0 → A1 → A2 → A3 → A4 → A5 → A6 → A7 → Prop, (∀ a0 a1 a2 a3 a4 a5 a6 a7, J a0 a1 a2 a3 a4 a5 a6 a7 → rest a0 a1 a2 a3 a4 a5 a6 a7) ∧ region J := ⟨rest, fun a0 a1 a2 a3 a4 a5 a6 a7 => fun h => h, h⟩
def jn9 {A0 A1 A2 A3 A4 A5 A6 A7 A8 : Type} (rest : A0 → A1 → A2 → A3 → A4 → A5 → A6 → A7 → A8 → Prop) (region : (A0 → A1 → A2 → A3 → A4 → A5 → A6 → A7 → A8 → Prop) → Prop) : Prop := region rest
theorem jn9_out {A0 A1 A2 A3 A4 A5 A6 A7 A8 : Type} {rest : A0 → A1 → A2 → A3 → A4 → A5 → A6 → A7 → A8 → Prop} {region : (A0 → A1 → A2 → A3 → A4 → A5 → A6 → A7 → A8 → Prop) → Prop} (h : jn9 rest region) : ∃ J : A0 → A1 → A2 → A3 → A4 → A5 → A6 → A7 → A8 → Prop, (∀ a0 a1 a2 a3 a4 a5 a6 a7 a8, J a0 a1 a2 a3 a4 a5 a6 a7 a8 → rest a0 a1 a2 a3 a4 a5 a6 a7 a8) ∧ region J := ⟨rest, fun a0 a1 a2 a3 a4 a5 a6 a7 a8 => fun h => h, h⟩
def jn10 {A0 A1 A2 A3 A4 A5 A6 A7 A8 A9 : Type} (rest : A0 → A1 → A2 → A3 → A4 → A5 → A6 → A7 → A8 → A9 → Prop) (region : (A0 → A1 → A2 → A3 → A4 → A5 → A6 → A7 → A8 → A9 → Prop) → Prop) : Prop := region rest
theorem jn10_out {A0 A1 A2 A3 A4 A5 A6 A7 A8 A9 : Type} {rest : A0 → A1 → A2 → A3 → A4 → A5 → A6 → A7 → A8 → A9 → Prop} {region : (A0 → A1 → A2 → A3 → A4 → A5 → A6 → A7 → A8 → A9 → Prop) → Prop} (h : jn10 rest region) : ∃ J : A0 → A1 → A2 → A3 → A4 → A5 → A6 → A7 → A8 → A9 → Prop, (∀ a0 a1 a2 a3 a4 a5 a6 a7 a8 a9, J a0 a1 a2 a3 a4 a5 a6 a7 a8 a9 → rest a0 a1 a2 a3 a4 a5 a6 a7 a8 a9) ∧ region J := ⟨rest, fun a0 a1 a2 a3 a4 a5 a6 a7 a8 a9 => fun h => h, h⟩
def jn11 {A0 A1 A2 A3 A4 A5 A6 A7 A8 A9 A10 : Type} (rest : A0 → A1 → A2 → A3 → A4 → A5 → A6 → A7 → A8 → A9 → A10 → Prop) (region : (A0 → A1 → A2 → A3 → A4 → A5 → A6 → A7 → A8 → A9 → A10 → Prop) → Prop) : Prop := region rest
theorem jn11_out {A0 A1 A2 A3 A4 A5 A6 A7 A8 A9 A10 : Type} {rest : A0 → A1 → A2 → A3 → A4 → A5 → A6 → A7 → A8 → A9 → A10 → Prop} {region : (A0 → A1 → A2 → A3 → A4 → A5 → A6 → A7 → A8 → A9 → A10 → Prop) → Prop} (h : jn11 rest region) : ∃ J : A0 → A1 → A2 → A3 → A4 → A5 → A6 → A7 → A8 → A9 → A10 → Prop, (∀ a0 a1 a2 a3 a4 a5 a6 a7 a8 a9 a10, J a0 a1 a2 a3 a4 a5 a6 a7 a8 a9 a10 → rest a0 a1 a2 a3 a4 a5 a6 a7 a8 a9 a10) ∧ region J := ⟨rest, fun a0 a1 a2 a3 a4 a5 a6 a7 a8 a9 a10 => fun h => h, h⟩
def jn12 {A0 A1 A2 A3 A4 A5 A6 A7 A8 A9 A10 A11 : Type} (rest : A0 → A1 → A2 → A3 → A4 → A5 → A6 → A7 → A8 → A9 → A10 → A11 → Prop) (region : (A0 → A1 → A2 → A3 → A4 → A5 → A6 → A7 → A8 → A9 → A10 → A11 → Prop) → Prop) : Prop := region rest
theorem jn12_out {A0 A1 A2 A3 A4 A5 A6 A7 A8 A9 A10 A11 : Type} {rest : A0 → A1 → A2 → A3 → A4 → A5 → A6 → A7 → A8 → A9 → A10 → A11 → Prop} {region : (A0 → A1 → A2 → A3 → A4 → A5 → A6 → A7 → A8 → A9 → A10 → A11 → Prop) → Prop} (h : jn12 rest region) : ∃ J : A0 → A1 → A2 → A3 → A4 → A5 → A6 → A7 → A8 → A9 → A10 → A11 → Prop, (∀ a0 a1 a2 a3 a4 a5 a6 a7 a8 a9 a10 a11, J a0 a1 a2 a3 a4 a5 a6 a7 a8 a9 a10 a11 → rest a0 a1 a2 a3 a4 a5 a6 a7 a8 a9 a10 a11) ∧ region J := ⟨rest, fun a0 a1 a2 a3 a4 a5 a6 a7 a8 a9 a10 a11 => fun h => h, h⟩
abbrev jrem (x y : Int32) : Int32 := x - x / y * y
abbrev jabs (x : Int32) : Int32 := if 0 ≤ x then x else 0 - x
abbrev jmin (x y : Int32) : Int32 := if y < x then y else x
abbrev jushr (x y : Int32) : Int32 := (x.toUInt32 >>> (y.toUInt32 &&& Int32.toUInt32 31)).toInt32
abbrev jat (f : Nat → Int32) (i : Int32) : Int32 := f i.toNatClampNeg
abbrev jup (f : Nat → Int32) (i x : Int32) : Nat → Int32 := upd f i.toNatClampNeg x
abbrev jupb (f : Nat → Int32) (i x : Int32) : Nat → Int32 := upd f i.toNatClampNeg (vp_nar .byte x)
/-- a number that a boolean field or answer may hold -/
def jz (x : Int32) : Prop := narrow .boolean (.int x) = .int x ∧ fits .boolean (.int x) = true
theorem jz0 : jz 0 := ⟨by decide, by decide⟩
theorem jz1 : jz 1 := ⟨by decide, by decide⟩
theorem jm_sw {x i : Int32} (h : ¬ x = i) : x.toInt ≠ i.toInt := fun e => h (Int32.toInt_inj.mp e)
