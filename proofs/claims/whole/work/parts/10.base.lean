/-! ===== the common words: kinds of arrays, links, a method's start, its end, its calls ===== -/
abbrev xTY (cI cC cZ cL : ClassId) : List (ClassId × FieldType) := [(cI, .int), (cC, .char), (cZ, .boolean), (cL, .long)]
/-- what the tables say of members of nest mates -/
def xN (U : State) : Prop :=
  va_Nw (.fieldLinkNest "TakeLog$Shelf" 19 "TakeLog$State" "cells" "[I" "TakeLog") U ∧ va_Nw (.fieldLinkNest "TakeLog" 307 "TakeLog$Day" "command" "I" "TakeLog") U ∧
  va_Nw (.fieldLinkNest "TakeLog" 310 "TakeLog$Day" "scene" "I" "TakeLog") U ∧ va_Nw (.fieldLinkNest "TakeLog" 313 "TakeLog$Day" "letter" "I" "TakeLog") U ∧
  va_Nw (.fieldLinkNest "TakeLog" 316 "TakeLog$Day" "number" "I" "TakeLog") U ∧ va_Nw (.methodLinkNest "TakeLog$State" 109 yX4_isLength "TakeLog") U ∧
  va_Nw (.methodLinkNest "TakeLog" 37 yX0_init "TakeLog") U ∧ va_Nw (.methodLinkNest "TakeLog" 44 yX1_init "TakeLog") U
theorem xN.warm {s U : State} (hW : s.WarmedH U.vm) (h : xN s) : xN U :=
  ⟨va_Nw.warmF hW h.1, va_Nw.warmF hW h.2.1, va_Nw.warmF hW h.2.2.1, va_Nw.warmF hW h.2.2.2.1, va_Nw.warmF hW h.2.2.2.2.1, va_Nw.warmM hW h.2.2.2.2.2.1, va_Nw.warmM hW h.2.2.2.2.2.2.1, va_Nw.warmM hW h.2.2.2.2.2.2.2⟩
theorem xN.same {u U : State} (e : u.vm = U.vm) (h : xN u) : xN U :=
  ⟨va_Nw.same rfl e h.1, va_Nw.same rfl e h.2.1, va_Nw.same rfl e h.2.2.1, va_Nw.same rfl e h.2.2.2.1, va_Nw.same rfl e h.2.2.2.2.1, va_Nw.same rfl e h.2.2.2.2.2.1, va_Nw.same rfl e h.2.2.2.2.2.2.1, va_Nw.same rfl e h.2.2.2.2.2.2.2⟩
abbrev xB (D : va_G) (TY : List (ClassId × FieldType)) (sz : Nat) (ws : va_W) (U : State) : Prop := U.heap.size = sz ∧ va_P D vwCl ws U.heap ∧ va_K D vwCl TY U ∧ xN U ∧ va_D (fun _ => True) ws
theorem xB_blind {D : va_G} {TY : List (ClassId × FieldType)} {sz : Nat} {ws : va_W} {av : List Value} : FrameBlind (va_Pc av (xB D TY sz ws)) := fun a U g mk q => by
  obtain ⟨q0, q1, qP, qK, qN, qD⟩ := q
  exact ⟨q0, q1, qP, va_K.moved (u := U) (U := U.calling g mk a) (Vm.Alike.refl U.vm) qK, xN.same (u := U) rfl qN, qD⟩
abbrev xE (D : va_G) (A : Nat → Prop) (ws : va_W) (t : State) : Prop := va_P D vwCl ws t.heap ∧ va_D A ws
/-- a method that answers an int, changes its cells alone and makes none -/
abbrev XMi {S : Type} (l : Launch) (y : MethodName) (ws : List Cond) (rm : Room) (D : va_G) (TY : List (ClassId × FieldType)) (av : List Value) (wc : va_W) (sz : Nat) (post : Int32 → S → Prop) (wf : S → va_W) : Prop :=
  Met l y ws rm (va_Pc av (xB D TY sz wc)) (va_Qi post (fun u t => xE D (va_A wc sz) (wf u) t) (va_A wc sz)) 0 0 (va_A wc sz)
abbrev XMl {S : Type} (l : Launch) (y : MethodName) (ws : List Cond) (rm : Room) (D : va_G) (TY : List (ClassId × FieldType)) (av : List Value) (wc : va_W) (sz : Nat) (post : Int64 → S → Prop) (wf : S → va_W) : Prop :=
  Met l y ws rm (va_Pc av (xB D TY sz wc)) (va_Ql post (fun u t => xE D (va_A wc sz) (wf u) t) (va_A wc sz)) 0 0 (va_A wc sz)
abbrev XMv {S : Type} (l : Launch) (y : MethodName) (ws : List Cond) (rm : Room) (D : va_G) (TY : List (ClassId × FieldType)) (av : List Value) (wc : va_W) (sz : Nat) (post : S → Prop) (wf : S → va_W) : Prop :=
  Met l y ws rm (va_Pc av (xB D TY sz wc)) (va_Qv post (fun u t => xE D (va_A wc sz) (wf u) t) (va_A wc sz)) 0 0 (va_A wc sz)
/-- inside a method -/
def xC (p : Program) (s : State) (m : MethodId) (args : Array Value) (meth : Method) (c : Code) (cc : ByteArray) (nL : Nat) (ret : Option FieldType) (Ts : List Cond) (own : String) (D : va_G) (TY : List (ClassId × FieldType)) : Prop :=
  p.tables.exec = Jvm.exec ∧ c.code = cc ∧ meth.sig.returnType = ret ∧ c.maxLocals = nL ∧ s.vm.findClass own = some m.cls ∧ (∀ w ∈ Ts, w.before args s = true) ∧ meth.locks = false ∧ va_K D vwCl TY s ∧ xN s
theorem x_enter {l : Launch} {y : MethodName} {ws ws' : List Cond} {rm : Room} {av : List Value} {wc : va_W} {sz : Nat} {Qc : Array Value → State → Outcome → State → Prop} {cc : ByteArray} {maxL : Nat} {ret : Option FieldType} {own : String} {D : va_G} {TY : List (ClassId × FieldType)}
    (hy : plainName y.cls = true) (hw : ws = Cond.code y cc maxL ret :: ws') (ho : y.cls = own) (hn : (lg_sl av).length ≤ maxL)
    (body : ∀ (p : Program) (e : Env) (s : State) (m : MethodId) (below : List Frame) (meth : Method) (c : Code) (ls : Array Slot), xC p s m av.toArray meth c cc maxL ret ws own D TY → (∀ q : Nat, s.heap.size ≤ q → va_A wc sz q) → va_P D vwCl wc s.heap → va_D (va_A wc sz) wc → va_S (va_A wc sz) s.heap s.heap [] → lv_has ls maxL (lv_args 0 av) →
      W p l e rm s m av.toArray below meth c s.heap [] 0 0 (MQ below Qc av.toArray s 0 0 (va_A wc sz)) (F0 m 0 ls [])) :
    Met l y ws rm (va_Pc av (xB D TY sz wc)) Qc 0 0 (va_A wc sz) := by
  refine Met.ofW (cc := cc) (maxL := maxL) (ret := ret) hy hw ?_
  intro p e s m args' below meth c s₁ B hml hv
  obtain ⟨rfl, hsz, hP, hK, hN, hD0⟩ := hv
  have hts := atoms_spec (ws := ws) B.pre
  have hown : s.vm.findClass own = some m.cls := ho ▸ findClass_of_methodNamed B.named
  have hl := lv_entry av (n := maxL) hn
  rw [lg_entry_eq]
  exact body p e s m below meth c _ ⟨B.exec, B.bytes, B.returns, hml, hown, hts, B.notSynchronized, hK, hN⟩ (fun q h => Or.inr (hsz ▸ h)) hP hD0.self va_S.rf hl
section XRET
variable {p : Program} {l : Launch} {e : Env} {R : Room} {s : State} {m : MethodId} {args : Array Value} {below : List Frame} {meth : Method} {c : Code} {H : Heap} {locs : List Loc} {cells slots : Nat} {A : Nat → Prop} {D : va_G} {TY : List (ClassId × FieldType)} {cc : ByteArray} {nL pc : Nat} {Ts : List Cond} {own : String} {ls : Array Slot}
theorem x_reti {S : Type} {post : Int32 → S → Prop} {wf : S → va_W} {v : Int32} (C0 : xC p s m args meth c cc nL (some .int) Ts own D TY) (u : S) (hk : post v u) (hP : va_P D vwCl (wf u) H) (hD : va_D A (wf u)) (hS : va_S A s.heap H locs) (d : decode cc pc = .ok (.ireturn, 1)) :
    W p l e R s m args below meth c H locs cells slots (MQ below (va_Qi post (fun u t => xE D A (wf u) t) A) args s cells slots A) (F0 m pc ls [.int v]) :=
  W.iret C0.1 C0.2.1 C0.2.2.1 (fun t ht _ => ⟨⟨v, u, rfl, hk, by rw [ht]; exact hP, hD⟩, hS.F ht⟩) hS.2.2 d C0.2.2.2.2.2.2.1
theorem x_retz {S : Type} {post : Int32 → S → Prop} {wf : S → va_W} {v : Int32} (hz : narrow .boolean (.int v) = .int v) (C0 : xC p s m args meth c cc nL (some .boolean) Ts own D TY) (u : S) (hk : post v u) (hP : va_P D vwCl (wf u) H) (hD : va_D A (wf u)) (hS : va_S A s.heap H locs) (d : decode cc pc = .ok (.ireturn, 1)) :
    W p l e R s m args below meth c H locs cells slots (MQ below (va_Qi post (fun u t => xE D A (wf u) t) A) args s cells slots A) (F0 m pc ls [.int v]) :=
  W.zret C0.1 C0.2.1 C0.2.2.1 hz (fun t ht _ => ⟨⟨v, u, rfl, hk, by rw [ht]; exact hP, hD⟩, hS.F ht⟩) hS.2.2 d C0.2.2.2.2.2.2.1
theorem x_retl {S : Type} {post : Int64 → S → Prop} {wf : S → va_W} {v : Int64} (C0 : xC p s m args meth c cc nL (some .long) Ts own D TY) (u : S) (hk : post v u) (hP : va_P D vwCl (wf u) H) (hD : va_D A (wf u)) (hS : va_S A s.heap H locs) (d : decode cc pc = .ok (.lreturn, 1)) :
    W p l e R s m args below meth c H locs cells slots (MQ below (va_Ql post (fun u t => xE D A (wf u) t) A) args s cells slots A) (F0 m pc ls [.long v]) :=
  W.lret C0.1 C0.2.1 C0.2.2.1 (fun t ht _ => ⟨⟨v, u, rfl, hk, by rw [ht]; exact hP, hD⟩, hS.F ht⟩) hS.2.2 d C0.2.2.2.2.2.2.1
theorem x_retv {S : Type} {post : S → Prop} {wf : S → va_W} (C0 : xC p s m args meth c cc nL none Ts own D TY) (u : S) (hk : post u) (hP : va_P D vwCl (wf u) H) (hD : va_D A (wf u)) (hS : va_S A s.heap H locs) (d : decode cc pc = .ok (.return_, 1)) :
    W p l e R s m args below meth c H locs cells slots (MQ below (va_Qv post (fun u t => xE D A (wf u) t) A) args s cells slots A) (F0 m pc ls []) :=
  W.vret C0.1 C0.2.1 C0.2.2.1 (fun t ht _ => ⟨⟨u, rfl, hk, by rw [ht]; exact hP, hD⟩, hS.F ht⟩) hS.2.2 d C0.2.2.2.2.2.2.1
end XRET
theorem x_fm {α β : Type} {f : α → Option β} : ∀ {is : List α} {l : List β}, is.map f = l.map some → is.filterMap f = l
  | [], [], _ => rfl
  | [], _ :: _, h => by simp at h
  | _ :: _, [], h => by simp at h
  | a :: is, b :: l, h => by
    simp only [List.map_cons, List.cons.injEq] at h
    rw [List.filterMap_cons, h.1]
    simp only [x_fm h.2]
section XCALL
variable {p : Program} {l : Launch} {e : Env} {R : Room} {s : State} {m : MethodId} {args : Array Value} {below : List Frame} {meth : Method} {c : Code} {H : Heap} {locs : List Loc} {cells slots : Nat} {A : Nat → Prop} {D : va_G} {TY : List (ClassId × FieldType)} {cc : ByteArray} {nL pc : Nat} {ret : Option FieldType} {Ts : List Cond} {own : String} {ls : Array Slot} {Q : State → Prop} {st0 rest : List Value} {ws wc : va_W} {a9 : Array Value}
/-- the world behind a call, in an order of one's own -/
theorem x_world {w1 ws1 : va_W} {H1 : Heap} (hP : va_P D vwCl ws H) (hD : va_D A ws) (hS : va_S A s.heap H locs) (hA : ∀ q : Nat, s.heap.size ≤ q → A q) (isC isR perm : List Nat) (hC : isC.map (fun i => ws[i]?) = wc.map some) (hR : isR.map (fun i => ws[i]?) = (isR.filterMap (fun i => ws[i]?)).map some) (hn : va_nd isR = true) (hdis : ∀ i ∈ isR, i ∉ isC)
    (hws : perm.map (fun i => ((isR.filterMap (fun i => ws[i]?)) ++ w1)[i]?) = ws1.map some) (hnp : va_nd perm = true) (hk : ∀ q : Nat, q < H.size → ¬ va_A wc H.size q → H1[q]? = H[q]?) (hP1 : va_P D vwCl w1 H1) (hD1 : va_D (va_A wc H.size) w1) : va_P D vwCl ws1 H1 ∧ va_D A ws1 := by
  obtain ⟨h1, h2⟩ := va_join hP hD isC isR hC hR hn hdis hk (va_free hD hS hA isC hC) hP1 hD1
  exact ⟨h1.sub perm (x_fm hws), h2.sub perm hnp hws⟩
theorem x_joini {S : Type} {post : Int32 → S → Prop} {wf ws1 : S → va_W} (hr : va_Run p l e R s m args below meth c H locs cells slots 0 0 (F0 m pc ls st0) rest (va_Qi post (fun u t => xE D (va_A wc H.size) (wf u) t) (va_A wc H.size) a9) (va_A wc H.size))
    (hP : va_P D vwCl ws H) (hD : va_D A ws) (hS : va_S A s.heap H locs) (hA : ∀ q : Nat, s.heap.size ≤ q → A q) (isC isR perm : List Nat) (hC : isC.map (fun i => ws[i]?) = wc.map some) (hR : isR.map (fun i => ws[i]?) = (isR.filterMap (fun i => ws[i]?)).map some) (hn : va_nd isR = true) (hdis : ∀ i ∈ isR, i ∉ isC)
    (hws : ∀ u, perm.map (fun i => ((isR.filterMap (fun i => ws[i]?)) ++ wf u)[i]?) = (ws1 u).map some) (hnp : va_nd perm = true)
    (kk : ∀ (r : Int32) (u : S) (H1 : Heap) (locs1 : List Loc), post r u → va_P D vwCl (ws1 u) H1 → va_D A (ws1 u) → va_S A s.heap H1 locs1 → W p l e R s m args below meth c H1 locs1 cells slots Q (F0 m (pc + 3) ls (.int r :: rest))) : W p l e R s m args below meth c H locs cells slots Q (F0 m pc ls st0) := by
  refine va_calli hr hS (fun q _ h => va_free hD hS hA isC hC q h) (va_free hD hS hA isC hC) (fun r u t H1 locs1 ht _ hp hB _ hk1 hS1 => ?_)
  obtain ⟨hP1, hD1⟩ := hB
  rw [ht] at hP1
  obtain ⟨hP2, hD2⟩ := x_world hP hD hS hA isC isR perm hC hR hn hdis (hws u) hnp hk1 hP1 hD1
  exact kk r u H1 locs1 hp hP2 hD2 hS1
theorem x_joinl {S : Type} {post : Int64 → S → Prop} {wf ws1 : S → va_W} (hr : va_Run p l e R s m args below meth c H locs cells slots 0 0 (F0 m pc ls st0) rest (va_Ql post (fun u t => xE D (va_A wc H.size) (wf u) t) (va_A wc H.size) a9) (va_A wc H.size))
    (hP : va_P D vwCl ws H) (hD : va_D A ws) (hS : va_S A s.heap H locs) (hA : ∀ q : Nat, s.heap.size ≤ q → A q) (isC isR perm : List Nat) (hC : isC.map (fun i => ws[i]?) = wc.map some) (hR : isR.map (fun i => ws[i]?) = (isR.filterMap (fun i => ws[i]?)).map some) (hn : va_nd isR = true) (hdis : ∀ i ∈ isR, i ∉ isC)
    (hws : ∀ u, perm.map (fun i => ((isR.filterMap (fun i => ws[i]?)) ++ wf u)[i]?) = (ws1 u).map some) (hnp : va_nd perm = true)
    (kk : ∀ (r : Int64) (u : S) (H1 : Heap) (locs1 : List Loc), post r u → va_P D vwCl (ws1 u) H1 → va_D A (ws1 u) → va_S A s.heap H1 locs1 → W p l e R s m args below meth c H1 locs1 cells slots Q (F0 m (pc + 3) ls (.long r :: rest))) : W p l e R s m args below meth c H locs cells slots Q (F0 m pc ls st0) := by
  refine va_calll hr hS (fun q _ h => va_free hD hS hA isC hC q h) (va_free hD hS hA isC hC) (fun r u t H1 locs1 ht _ hp hB _ hk1 hS1 => ?_)
  obtain ⟨hP1, hD1⟩ := hB
  rw [ht] at hP1
  obtain ⟨hP2, hD2⟩ := x_world hP hD hS hA isC isR perm hC hR hn hdis (hws u) hnp hk1 hP1 hD1
  exact kk r u H1 locs1 hp hP2 hD2 hS1
theorem x_joinv {S : Type} {post : S → Prop} {wf ws1 : S → va_W} (hr : va_Run p l e R s m args below meth c H locs cells slots 0 0 (F0 m pc ls st0) rest (va_Qv post (fun u t => xE D (va_A wc H.size) (wf u) t) (va_A wc H.size) a9) (va_A wc H.size))
    (hP : va_P D vwCl ws H) (hD : va_D A ws) (hS : va_S A s.heap H locs) (hA : ∀ q : Nat, s.heap.size ≤ q → A q) (isC isR perm : List Nat) (hC : isC.map (fun i => ws[i]?) = wc.map some) (hR : isR.map (fun i => ws[i]?) = (isR.filterMap (fun i => ws[i]?)).map some) (hn : va_nd isR = true) (hdis : ∀ i ∈ isR, i ∉ isC)
    (hws : ∀ u, perm.map (fun i => ((isR.filterMap (fun i => ws[i]?)) ++ wf u)[i]?) = (ws1 u).map some) (hnp : va_nd perm = true)
    (kk : ∀ (u : S) (H1 : Heap) (locs1 : List Loc), post u → va_P D vwCl (ws1 u) H1 → va_D A (ws1 u) → va_S A s.heap H1 locs1 → W p l e R s m args below meth c H1 locs1 cells slots Q (F0 m (pc + 3) ls rest)) : W p l e R s m args below meth c H locs cells slots Q (F0 m pc ls st0) := by
  refine va_callv hr hS (fun q _ h => va_free hD hS hA isC hC q h) (va_free hD hS hA isC hC) (fun u t H1 locs1 ht _ hp hB _ hk1 hS1 => ?_)
  obtain ⟨hP1, hD1⟩ := hB
  rw [ht] at hP1
  obtain ⟨hP2, hD2⟩ := x_world hP hD hS hA isC isR perm hC hR hn hdis (hws u) hnp hk1 hP1 hD1
  exact kk u H1 locs1 hp hP2 hD2 hS1
variable {y : MethodName} {wsY wsY' : List Cond} {rmY : Room} {by0 : ByteArray} {mL idx n0 : Nat} {rt : Option FieldType} {C9 : String} {Qc : Array Value → State → Outcome → State → Prop} {b : Nat} {As av : List Value} {free : Addr → Prop}
/-- what a callee's start wants, out of the caller's world -/
theorem x_pre (C0 : xC p s m args meth c cc nL ret Ts own D TY) (hP : va_P D vwCl ws H) (hD : va_D A ws) (isC : List Nat) (hC : isC.map (fun i => ws[i]?) = wc.map some) (hnC : va_nd isC = true) : PreS s H (va_Pc av (xB D TY H.size wc)) av :=
  ⟨xB_blind, fun U hU hW => ⟨rfl, by rw [hU], by rw [hU]; exact hP.sub isC (x_fm hC), va_K.moved hW.alike C0.2.2.2.2.2.2.2.1, xN.warm hW C0.2.2.2.2.2.2.2.2, (hD.sub isC hnC hC).weaken (fun _ _ _ _ => trivial)⟩⟩
theorem x_runV (C0 : xC p s m args meth c cc nL ret Ts own D TY) (hM : Met l y wsY rmY (va_Pc (.ref b :: As) (xB D TY H.size wc)) Qc 0 0 free) (hG : GoodIn Ts (wsV own idx C9 y wsY)) (hw : wsY = Cond.code y by0 mL rt :: wsY') (hz : rmY.cells = 0 ∧ rmY.slots = 0)
    (hd : y.cls = C9 ∧ y.cls ≠ "java/lang/invoke/MethodHandle" ∧ y.cls ≠ "java/lang/invoke/VarHandle" ∧ (parseMethodDescriptor y.desc).map (fun d => d.parameters.length) = some n0) (hlen : As.length = n0) (hR : rmY.frames + 1 ≤ R.frames ∧ 8 + (mL + 11) + rmY.locals ≤ R.locals) (hcs : cells ≤ R.cells ∧ slots ≤ R.slots)
    (hP : va_P D vwCl ws H) (hD : va_D A ws) (isC : List Nat) (hC : isC.map (fun i => ws[i]?) = wc.map some) (hnC : va_nd isC = true) {k ci : Nat} {fs : List Value} {q9 : vw_C} (he : ws[k]? = some (b, .inr (ci, fs))) (hc : vwCl[ci]? = some q9) (hq : q9.1 = C9)
    (hsize : ls.size = nL) (hst : st0 = As.reverse ++ .ref b :: rest) (hW : (rest.map fun v => v.category).sum ≤ 8) (hdg : decode cc pc = .ok (.invokevirtual idx, 3)) :
    va_Run p l e R s m args below meth c H locs cells slots 0 0 (F0 m pc ls st0) rest (Qc (Value.ref b :: As).toArray) free :=
  va_runV ⟨C0.1, C0.2.1, C0.2.2.2.1, C0.2.2.2.2.1, C0.2.2.2.2.2.1⟩ hM (cwV n0 C0.2.2.2.2.2.1 hG hw hz.1 hz.2 hd hR) ⟨xB_blind, hq ▸ va_recv C0.2.2.2.2.2.2.2.1 hP hc he, (x_pre C0 hP hD isC hC hnC).2⟩ rfl hlen hsize hst (lv_room hW) hdg hcs
theorem x_runS (C0 : xC p s m args meth c cc nL ret Ts own D TY) (hM : Met l y wsY rmY (va_Pc As (xB D TY H.size wc)) Qc 0 0 free) (hG : GoodIn Ts (wsS own idx y wsY)) (hw : wsY = Cond.code y by0 mL rt :: wsY') (hz : rmY.cells = 0 ∧ rmY.slots = 0)
    (hd : y.cls = own ∧ y.cls ≠ "java/lang/invoke/MethodHandle" ∧ y.cls ≠ "java/lang/invoke/VarHandle" ∧ (parseMethodDescriptor y.desc).map (fun d => d.parameters.length) = some n0) (hlen : As.length = n0) (hR : rmY.frames + 1 ≤ R.frames ∧ 8 + (mL + 11) + rmY.locals ≤ R.locals) (hcs : cells ≤ R.cells ∧ slots ≤ R.slots)
    (hP : va_P D vwCl ws H) (hD : va_D A ws) (isC : List Nat) (hC : isC.map (fun i => ws[i]?) = wc.map some) (hnC : va_nd isC = true)
    (hsize : ls.size = nL) (hst : st0 = As.reverse ++ rest) (hW : (rest.map fun v => v.category).sum ≤ 8) (hdg : decode cc pc = .ok (.invokestatic idx, 3)) :
    va_Run p l e R s m args below meth c H locs cells slots 0 0 (F0 m pc ls st0) rest (Qc As.toArray) free :=
  va_runS ⟨C0.1, C0.2.1, C0.2.2.2.1, C0.2.2.2.2.1, C0.2.2.2.2.2.1⟩ hM (cwS n0 C0.2.2.2.2.2.1 hG hw hz.1 hz.2 hd hR) (x_pre C0 hP hD isC hC hnC) rfl hlen hsize hst (lv_room hW) hdg hcs
theorem x_runO (C0 : xC p s m args meth c cc nL ret Ts own D TY) (hM : Met l y wsY rmY (va_Pc As (xB D TY H.size wc)) Qc 0 0 free) (hG : GoodIn Ts (va_wsS own idx y wsY)) (hw : wsY = Cond.code y by0 mL rt :: wsY') (hz : rmY.cells = 0 ∧ rmY.slots = 0)
    (hd : y.cls ≠ "java/lang/invoke/MethodHandle" ∧ y.cls ≠ "java/lang/invoke/VarHandle" ∧ (parseMethodDescriptor y.desc).map (fun d => d.parameters.length) = some n0) (hlen : As.length = n0) (hR : rmY.frames + 1 ≤ R.frames ∧ 8 + (mL + 11) + rmY.locals ≤ R.locals) (hcs : cells ≤ R.cells ∧ slots ≤ R.slots)
    (hP : va_P D vwCl ws H) (hD : va_D A ws) (isC : List Nat) (hC : isC.map (fun i => ws[i]?) = wc.map some) (hnC : va_nd isC = true)
    (hsize : ls.size = nL) (hst : st0 = As.reverse ++ rest) (hW : (rest.map fun v => v.category).sum ≤ 8) (hdg : decode cc pc = .ok (.invokestatic idx, 3)) :
    va_Run p l e R s m args below meth c H locs cells slots 0 0 (F0 m pc ls st0) rest (Qc As.toArray) free :=
  va_runS ⟨C0.1, C0.2.1, C0.2.2.2.1, C0.2.2.2.2.1, C0.2.2.2.2.2.1⟩ hM (va_cwS n0 C0.2.2.2.2.2.1 hG hw hz.1 hz.2 hd hR) (x_pre C0 hP hD isC hC hnC) rfl hlen hsize hst (lv_room hW) hdg hcs
theorem x_runN {host : String} (C0 : xC p s m args meth c cc nL ret Ts own D TY) (hM : Met l y wsY rmY (va_Pc As (xB D TY H.size wc)) Qc 0 0 free) (hG : GoodIn Ts wsY) (hw : wsY = Cond.code y by0 mL rt :: wsY') (hz : rmY.cells = 0 ∧ rmY.slots = 0) (hl : va_Nw (.methodLinkNest own idx y host) s) (hini : Cond.initialized y.cls ∈ Ts) (hstt : Cond.static y ∈ Ts)
    (hd : y.cls ≠ "java/lang/invoke/MethodHandle" ∧ y.cls ≠ "java/lang/invoke/VarHandle" ∧ (parseMethodDescriptor y.desc).map (fun d => d.parameters.length) = some n0) (hlen : As.length = n0) (hR : rmY.frames + 1 ≤ R.frames ∧ 8 + (mL + 11) + rmY.locals ≤ R.locals) (hcs : cells ≤ R.cells ∧ slots ≤ R.slots)
    (hP : va_P D vwCl ws H) (hD : va_D A ws) (isC : List Nat) (hC : isC.map (fun i => ws[i]?) = wc.map some) (hnC : va_nd isC = true)
    (hsize : ls.size = nL) (hst : st0 = As.reverse ++ rest) (hW : (rest.map fun v => v.category).sum ≤ 8) (hdg : decode cc pc = .ok (.invokestatic idx, 3)) :
    va_Run p l e R s m args below meth c H locs cells slots 0 0 (F0 m pc ls st0) rest (Qc As.toArray) free :=
  va_runSN ⟨C0.1, C0.2.1, C0.2.2.2.1, C0.2.2.2.2.1, C0.2.2.2.2.2.1⟩ hM ⟨va_cnB n0 C0.2.2.2.2.2.1 hG hw hz.1 hz.2 hl (C0.2.2.2.2.2.1 _ hini) hd hR, C0.2.2.2.2.2.1 _ hstt, trivial⟩ (x_pre C0 hP hD isC hC hnC) rfl hlen hsize hst (lv_room hW) hdg hcs
end XCALL
/-- from an array's place -/
theorem x_in {i : Nat} {n : Nat} (h : i < n) (hn : n < 2 ^ 31) : vp_in (nI i) n := vp_in_nI h hn
/-- the cases of a switch -/
theorem x_ne {x v : Int32} {k : Int} (h : ¬ x = v) (hv : v.toInt = k) : x.toInt ≠ k := fun q => h (Int32.toInt_inj.mp (q.trans hv.symm))
/-- a place that is written out -/
theorem x_lit {i : Int32} {k n : Nat} (h : i.toNatClampNeg = k) (h0 : ¬ i < 0) (hk : k < n) : vp_in i n := fun q => q.elim h0 (fun z => by omega)
section XARR
variable {p : Program} {l : Launch} {e : Env} {R : Room} {s : State} {m : MethodId} {args : Array Value} {below : List Frame} {meth : Method} {c : Code} {H H0 : Heap} {locs : List Loc} {cells slots : Nat} {A : Nat → Prop} {D : va_G} {cl : List vw_C} {tys : List (ClassId × FieldType)} {ws : va_W} {cc : ByteArray} {pc a : Nat} {ls : Array Slot} {Q : State → Prop} {rest : List Value}
theorem x_iald (hexec : p.tables.exec = Jvm.exec) (hb : c.code = cc) (hK : va_K D cl tys s) (hP : va_P D cl ws H) (q0 t0 : Nat) {cA : ClassId} {n : Nat} {f : Nat → Int32} (ha : ws[q0]? = some (a, .inl (cA, n, .inl f))) (ht : tys[t0]? = some (cA, .int)) {i : Int32} (hin : vp_in i n) {k : Nat} (hk : i.toNatClampNeg = k) {v : Int32} (hv : f k = v) (hdg : decode cc pc = .ok (.iaload, 1))
    (kk : W p l e R s m args below meth c H locs cells slots Q (F0 m (pc + 1) ls (.int v :: rest))) : W p l e R s m args below meth c H locs cells slots Q (F0 m pc ls (.int i :: .ref a :: rest)) := va_iald hexec hb hK hP q0 t0 ha ht hin hdg (by rw [hk, hv]; exact kk)
theorem x_cald (hexec : p.tables.exec = Jvm.exec) (hb : c.code = cc) (hK : va_K D cl tys s) (hP : va_P D cl ws H) (q0 t0 : Nat) {cA : ClassId} {n : Nat} {f : Nat → Int32} (ha : ws[q0]? = some (a, .inl (cA, n, .inl f))) (ht : tys[t0]? = some (cA, .char)) {i : Int32} (hin : vp_in i n) {k : Nat} (hk : i.toNatClampNeg = k) {v : Int32} (hv : f k = v) (hdg : decode cc pc = .ok (.caload, 1))
    (kk : W p l e R s m args below meth c H locs cells slots Q (F0 m (pc + 1) ls (.int v :: rest))) : W p l e R s m args below meth c H locs cells slots Q (F0 m pc ls (.int i :: .ref a :: rest)) := va_cald hexec hb hK hP q0 t0 ha ht hin hdg (by rw [hk, hv]; exact kk)
theorem x_zald (hexec : p.tables.exec = Jvm.exec) (hb : c.code = cc) (hK : va_K D cl tys s) (hP : va_P D cl ws H) (q0 t0 : Nat) {cA : ClassId} {n : Nat} {f : Nat → Int32} (ha : ws[q0]? = some (a, .inl (cA, n, .inl f))) (ht : tys[t0]? = some (cA, .boolean)) {i : Int32} (hin : vp_in i n) {k : Nat} (hk : i.toNatClampNeg = k) {v : Int32} (hv : f k = v) (hdg : decode cc pc = .ok (.baload, 1))
    (kk : W p l e R s m args below meth c H locs cells slots Q (F0 m (pc + 1) ls (.int v :: rest))) : W p l e R s m args below meth c H locs cells slots Q (F0 m pc ls (.int i :: .ref a :: rest)) := va_zald hexec hb hK hP q0 t0 ha ht hin hdg (by rw [hk, hv]; exact kk)
theorem x_lald (hexec : p.tables.exec = Jvm.exec) (hb : c.code = cc) (hK : va_K D cl tys s) (hP : va_P D cl ws H) (q0 t0 : Nat) {cA : ClassId} {n : Nat} {f : Nat → Int64} (ha : ws[q0]? = some (a, .inl (cA, n, .inr (.inl f)))) (ht : tys[t0]? = some (cA, .long)) {i : Int32} (hin : vp_in i n) {k : Nat} (hk : i.toNatClampNeg = k) {v : Int64} (hv : f k = v) (hdg : decode cc pc = .ok (.laload, 1))
    (kk : W p l e R s m args below meth c H locs cells slots Q (F0 m (pc + 1) ls (.long v :: rest))) : W p l e R s m args below meth c H locs cells slots Q (F0 m pc ls (.int i :: .ref a :: rest)) := va_lald hexec hb hK hP q0 t0 ha ht hin hdg (by rw [hk, hv]; exact kk)
theorem x_iast (hexec : p.tables.exec = Jvm.exec) (hb : c.code = cc) (hK : va_K D cl tys s) (hP : va_P D cl ws H) (hD : va_D A ws) (hS : va_S A H0 H locs) (q0 t0 : Nat) {cA : ClassId} {n : Nat} {f : Nat → Int32} (ha : ws[q0]? = some (a, .inl (cA, n, .inl f))) (ht : tys[t0]? = some (cA, .int)) {i : Int32} {x : Int32} (hin : vp_in i n) {k : Nat} (hk : i.toNatClampNeg = k) (hdg : decode cc pc = .ok (.iastore, 1))
    (kk : ∀ (H1 : Heap) (locs1 : List Loc), va_P D cl (ws.set q0 (a, .inl (cA, n, .inl (upd f k x)))) H1 → va_D A (ws.set q0 (a, .inl (cA, n, .inl (upd f k x)))) → va_S A H0 H1 locs1 → W p l e R s m args below meth c H1 locs1 cells slots Q (F0 m (pc + 1) ls rest)) : W p l e R s m args below meth c H locs cells slots Q (F0 m pc ls (.int x :: .int i :: .ref a :: rest)) := va_iast hexec hb hK hP hD hS q0 t0 ha ht hin hdg (by rw [hk]; exact kk)
theorem x_cast (hexec : p.tables.exec = Jvm.exec) (hb : c.code = cc) (hK : va_K D cl tys s) (hP : va_P D cl ws H) (hD : va_D A ws) (hS : va_S A H0 H locs) (q0 t0 : Nat) {cA : ClassId} {n : Nat} {f : Nat → Int32} (ha : ws[q0]? = some (a, .inl (cA, n, .inl f))) (ht : tys[t0]? = some (cA, .char)) {i : Int32} {x : Int32} (hin : vp_in i n) {k : Nat} (hk : i.toNatClampNeg = k) (hdg : decode cc pc = .ok (.castore, 1))
    (kk : ∀ (H1 : Heap) (locs1 : List Loc), va_P D cl (ws.set q0 (a, .inl (cA, n, .inl (upd f k (vp_nar .char x))))) H1 → va_D A (ws.set q0 (a, .inl (cA, n, .inl (upd f k (vp_nar .char x))))) → va_S A H0 H1 locs1 → W p l e R s m args below meth c H1 locs1 cells slots Q (F0 m (pc + 1) ls rest)) : W p l e R s m args below meth c H locs cells slots Q (F0 m pc ls (.int x :: .int i :: .ref a :: rest)) := va_cast hexec hb hK hP hD hS q0 t0 ha ht hin hdg (by rw [hk]; exact kk)
theorem x_zast (hexec : p.tables.exec = Jvm.exec) (hb : c.code = cc) (hK : va_K D cl tys s) (hP : va_P D cl ws H) (hD : va_D A ws) (hS : va_S A H0 H locs) (q0 t0 : Nat) {cA : ClassId} {n : Nat} {f : Nat → Int32} (ha : ws[q0]? = some (a, .inl (cA, n, .inl f))) (ht : tys[t0]? = some (cA, .boolean)) {i : Int32} {x : Int32} (hin : vp_in i n) {k : Nat} (hk : i.toNatClampNeg = k) (hdg : decode cc pc = .ok (.bastore, 1))
    (kk : ∀ (H1 : Heap) (locs1 : List Loc), va_P D cl (ws.set q0 (a, .inl (cA, n, .inl (upd f k (vp_nar .boolean x))))) H1 → va_D A (ws.set q0 (a, .inl (cA, n, .inl (upd f k (vp_nar .boolean x))))) → va_S A H0 H1 locs1 → W p l e R s m args below meth c H1 locs1 cells slots Q (F0 m (pc + 1) ls rest)) : W p l e R s m args below meth c H locs cells slots Q (F0 m pc ls (.int x :: .int i :: .ref a :: rest)) := va_zast hexec hb hK hP hD hS q0 t0 ha ht hin hdg (by rw [hk]; exact kk)
theorem x_last (hexec : p.tables.exec = Jvm.exec) (hb : c.code = cc) (hK : va_K D cl tys s) (hP : va_P D cl ws H) (hD : va_D A ws) (hS : va_S A H0 H locs) (q0 t0 : Nat) {cA : ClassId} {n : Nat} {f : Nat → Int64} (ha : ws[q0]? = some (a, .inl (cA, n, .inr (.inl f)))) (ht : tys[t0]? = some (cA, .long)) {i : Int32} {x : Int64} (hin : vp_in i n) {k : Nat} (hk : i.toNatClampNeg = k) (hdg : decode cc pc = .ok (.lastore, 1))
    (kk : ∀ (H1 : Heap) (locs1 : List Loc), va_P D cl (ws.set q0 (a, .inl (cA, n, .inr (.inl (vp_updL f k x))))) H1 → va_D A (ws.set q0 (a, .inl (cA, n, .inr (.inl (vp_updL f k x))))) → va_S A H0 H1 locs1 → W p l e R s m args below meth c H1 locs1 cells slots Q (F0 m (pc + 1) ls rest)) : W p l e R s m args below meth c H locs cells slots Q (F0 m pc ls (.long x :: .int i :: .ref a :: rest)) := va_last hexec hb hK hP hD hS q0 t0 ha ht hin hdg (by rw [hk]; exact kk)
theorem x_copyi (hexec : p.tables.exec = Jvm.exec) (hb : c.code = cc) (hml : c.maxLocals = ls.size) {own : String} {index : Nat} (hown : s.vm.findClass own = some m.cls) (hlink : (Cond.methodLink own index arraycopyName).before args s = true) (hnat : (Cond.native arraycopyName).before args s = true) (hstat : (Cond.static arraycopyName).before args s = true) (hini : (Cond.initialized "java/lang/System").before args s = true)
    (hK : va_K D cl tys s) (hP : va_P D cl ws H) (hD : va_D A ws) (hS : va_S A H0 H locs) (q0 q1 t0 : Nat) {a0 : Nat} {c0 : ClassId} {n0 n9 : Nat} {f g : Nat → Int32} (ha0 : ws[q0]? = some (a0, .inl (c0, n0, .inl f))) (ha1 : ws[q1]? = some (a, .inl (c0, n9, .inl g))) (ht0 : tys[t0]? = some (c0, .int))
    {sp dp n : Int32} {s1 d1 n1 : Nat} (h1 : ¬ sp < 0) (h2 : ¬ dp < 0) (h3 : ¬ n < 0) (e1 : sp.toNatClampNeg = s1) (e2 : dp.toNatClampNeg = d1) (e3 : n.toNatClampNeg = n1) (h4 : s1 + n1 ≤ n0) (h5 : d1 + n1 ≤ n9)
    (hframes : 1 ≤ R.frames) (hlocals : (rest.map fun v => v.category).sum + (nativeFrameWords "java/lang/System" "arraycopy" 5 + 11) ≤ R.locals) (hdg : decode cc pc = .ok (.invokestatic index, 3))
    (kk : ∀ (H1 : Heap) (locs1 : List Loc), va_P D cl (ws.set q1 (a, .inl (c0, n9, .inl (va_cpy f g s1 d1 n1)))) H1 → va_D A (ws.set q1 (a, .inl (c0, n9, .inl (va_cpy f g s1 d1 n1)))) → va_S A H0 H1 locs1 → W p l e R s m args below meth c H1 locs1 cells slots Q (F0 m (pc + 3) ls rest)) :
    W p l e R s m args below meth c H locs cells slots Q (F0 m pc ls (.int n :: .int dp :: .ref a :: .int sp :: .ref a0 :: rest)) := by
  subst e1; subst e2; subst e3
  exact va_copyi hexec hb hml hown hlink hnat hstat hini hK hP hD hS q0 q1 t0 t0 ha0 ha1 ht0 ht0 rfl h1 h2 h3 h4 h5 (fun _ _ => rfl) hframes hlocals hdg kk
end XARR
