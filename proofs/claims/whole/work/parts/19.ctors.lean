/-! ===== constructors ===== -/
theorem x_sameArr {D : va_G} {tys : List (ClassId × FieldType)} {s : State} {cA cB : ClassId} {ty : FieldType} (h : va_K D vwCl tys s) (hty : ∀ C, ty ≠ .object C) (i j : Nat) (hi : tys[i]? = some (cA, ty)) (hj : tys[j]? = some (cB, ty)) : cA = cB := by
  have h1 := (h.2 i _ hi).2
  have h2 := (h.2 j _ hj).2
  have key : ∀ c : ClassId, va_RA s c ty → s.vm.findClass ("[" ++ ty.toString) = some c := by
    intro c hc
    cases ty with
    | object C => exact absurd rfl (hty C)
    | _ => exact hc
  exact Option.some.inj ((key _ h1).symm.trans (key _ h2))
abbrev XMc {S : Type} (l : Launch) (y : MethodName) (ws : List Cond) (rm : Room) (D : va_G) (TY : List (ClassId × FieldType)) (av : List Value) (wc : va_W) (sz : Nat) (post : S → Prop) (wf : S → va_W) (mc ms : Nat) : Prop :=
  Met l y ws rm (va_Pc av (xB D TY sz wc)) (va_Qv post (fun u t => xE D (va_A wc sz) (wf u) t) (va_A wc sz)) mc ms (va_A wc sz)
theorem x_enterC {l : Launch} {y : MethodName} {ws ws' : List Cond} {rm : Room} {av : List Value} {wc : va_W} {sz mc ms : Nat} {Qc : Array Value → State → Outcome → State → Prop} {cc : ByteArray} {maxL : Nat} {ret : Option FieldType} {own : String} {D : va_G} {TY : List (ClassId × FieldType)}
    (hy : plainName y.cls = true) (hw : ws = Cond.code y cc maxL ret :: ws') (ho : y.cls = own) (hnm : y.name = "<init>") (hn : (lg_sl av).length ≤ maxL)
    (body : ∀ (p : Program) (e : Env) (s : State) (m : MethodId) (below : List Frame) (meth : Method) (c : Code) (ls : Array Slot), xC p s m av.toArray meth c cc maxL ret ws own D TY → meth.name = "<init>" → (∀ q : Nat, s.heap.size ≤ q → va_A wc sz q) → va_P D vwCl wc s.heap → va_D (va_A wc sz) wc → va_S (va_A wc sz) s.heap s.heap [] → lv_has ls maxL (lv_args 0 av) →
      W p l e rm s m av.toArray below meth c s.heap [] 0 0 (MQ below Qc av.toArray s mc ms (va_A wc sz)) (F0 m 0 ls [])) :
    Met l y ws rm (va_Pc av (xB D TY sz wc)) Qc mc ms (va_A wc sz) := by
  refine Met.ofW (cc := cc) (maxL := maxL) (ret := ret) hy hw ?_
  intro p e s m args' below meth c s₁ B hml hv
  obtain ⟨rfl, hsz, hP, hK, hN, hD0⟩ := hv
  have hts := atoms_spec (ws := ws) B.pre
  have hown : s.vm.findClass own = some m.cls := ho ▸ findClass_of_methodNamed B.named
  have hin : meth.name = "<init>" := (name_of_methodNamed B.named B.method).1.trans hnm
  have hl := lv_entry av (n := maxL) hn
  rw [lg_entry_eq]
  exact body p e s m below meth c _ ⟨B.exec, B.bytes, B.returns, hml, hown, hts, B.notSynchronized, hK, hN⟩ hin (fun q h => Or.inr (hsz ▸ h)) hP hD0.self va_S.rf hl
section XNEW
variable {p : Program} {l : Launch} {e : Env} {R : Room} {s : State} {m : MethodId} {args : Array Value} {below : List Frame} {meth : Method} {c : Code} {H : Heap} {locs : List Loc} {cells slots : Nat} {A : Nat → Prop} {D : va_G} {TY : List (ClassId × FieldType)} {cI cC cZ cL : ClassId} {cc : ByteArray} {nL pc : Nat} {ret : Option FieldType} {Ts : List Cond} {own : String} {ls : Array Slot} {Q : State → Prop} {st0 rest : List Value} {ws wc : va_W} {a9 : Array Value}
theorem x_newI (C0 : xC p s m args meth c cc nL ret Ts own D (xTY cI cC cZ cL)) (hA : ∀ q : Nat, s.heap.size ≤ q → A q) (hP : va_P D vwCl ws H) (hD : va_D A ws) (hS : va_S A s.heap H locs) (hw : Cond.arrayClass .int ∈ Ts) {n : Int32} {N' : Nat} (hn : ¬ n < 0) (hN : n.toNatClampNeg = N') (hby : N' * 4 ≤ 536870912) (hc : cells + 1 ≤ R.cells) (hs : slots + N' ≤ R.slots) (hdg : decode cc pc = .ok (.newarray .int, 2))
    (kk : ∀ (q : Nat) (H1 : Heap), va_P D vwCl (ws ++ [(q, .inl (cI, N', .inl (fun _ => 0)))]) H1 → va_D A (ws ++ [(q, .inl (cI, N', .inl (fun _ => 0)))]) → va_S A s.heap H1 locs → W p l e R s m args below meth c H1 locs (cells + 1) (slots + N') Q (F0 m (pc + 2) ls (.ref q :: rest))) :
    W p l e R s m args below meth c H locs cells slots Q (F0 m pc ls (.int n :: rest)) :=
  va_newa (atype := .int) (ty := .int) (a0 := (N', .inl (fun _ => 0))) C0.1 C0.2.1 (C0.2.2.2.2.2.1 _ hw) rfl C0.2.2.2.2.2.2.2.1 hP hD hS hA (fun _ => rfl) hn hN hby hc hs hdg (fun q cA H1 hK1 hP1 hD1 hS1 => by
    have e : cA = cI := x_sameArr hK1 (fun _ h => by cases h) 4 0 rfl rfl
    rw [e] at hP1 hD1
    exact kk q H1 hP1 hD1 hS1)
theorem x_newC (C0 : xC p s m args meth c cc nL ret Ts own D (xTY cI cC cZ cL)) (hA : ∀ q : Nat, s.heap.size ≤ q → A q) (hP : va_P D vwCl ws H) (hD : va_D A ws) (hS : va_S A s.heap H locs) (hw : Cond.arrayClass .char ∈ Ts) {n : Int32} {N' : Nat} (hn : ¬ n < 0) (hN : n.toNatClampNeg = N') (hby : N' * 2 ≤ 536870912) (hc : cells + 1 ≤ R.cells) (hs : slots + N' ≤ R.slots) (hdg : decode cc pc = .ok (.newarray .char, 2))
    (kk : ∀ (q : Nat) (H1 : Heap), va_P D vwCl (ws ++ [(q, .inl (cC, N', .inl (fun _ => 0)))]) H1 → va_D A (ws ++ [(q, .inl (cC, N', .inl (fun _ => 0)))]) → va_S A s.heap H1 locs → W p l e R s m args below meth c H1 locs (cells + 1) (slots + N') Q (F0 m (pc + 2) ls (.ref q :: rest))) :
    W p l e R s m args below meth c H locs cells slots Q (F0 m pc ls (.int n :: rest)) :=
  va_newa (atype := .char) (ty := .char) (a0 := (N', .inl (fun _ => 0))) C0.1 C0.2.1 (C0.2.2.2.2.2.1 _ hw) rfl C0.2.2.2.2.2.2.2.1 hP hD hS hA (fun _ => rfl) hn hN hby hc hs hdg (fun q cA H1 hK1 hP1 hD1 hS1 => by
    have e : cA = cC := x_sameArr hK1 (fun _ h => by cases h) 4 1 rfl rfl
    rw [e] at hP1 hD1
    exact kk q H1 hP1 hD1 hS1)
theorem x_newZ (C0 : xC p s m args meth c cc nL ret Ts own D (xTY cI cC cZ cL)) (hA : ∀ q : Nat, s.heap.size ≤ q → A q) (hP : va_P D vwCl ws H) (hD : va_D A ws) (hS : va_S A s.heap H locs) (hw : Cond.arrayClass .boolean ∈ Ts) {n : Int32} {N' : Nat} (hn : ¬ n < 0) (hN : n.toNatClampNeg = N') (hby : N' * 1 ≤ 536870912) (hc : cells + 1 ≤ R.cells) (hs : slots + N' ≤ R.slots) (hdg : decode cc pc = .ok (.newarray .boolean, 2))
    (kk : ∀ (q : Nat) (H1 : Heap), va_P D vwCl (ws ++ [(q, .inl (cZ, N', .inl (fun _ => 0)))]) H1 → va_D A (ws ++ [(q, .inl (cZ, N', .inl (fun _ => 0)))]) → va_S A s.heap H1 locs → W p l e R s m args below meth c H1 locs (cells + 1) (slots + N') Q (F0 m (pc + 2) ls (.ref q :: rest))) :
    W p l e R s m args below meth c H locs cells slots Q (F0 m pc ls (.int n :: rest)) :=
  va_newa (atype := .boolean) (ty := .boolean) (a0 := (N', .inl (fun _ => 0))) C0.1 C0.2.1 (C0.2.2.2.2.2.1 _ hw) rfl C0.2.2.2.2.2.2.2.1 hP hD hS hA (fun _ => rfl) hn hN hby hc hs hdg (fun q cA H1 hK1 hP1 hD1 hS1 => by
    have e : cA = cZ := x_sameArr hK1 (fun _ h => by cases h) 4 2 rfl rfl
    rw [e] at hP1 hD1
    exact kk q H1 hP1 hD1 hS1)
theorem x_newL (C0 : xC p s m args meth c cc nL ret Ts own D (xTY cI cC cZ cL)) (hA : ∀ q : Nat, s.heap.size ≤ q → A q) (hP : va_P D vwCl ws H) (hD : va_D A ws) (hS : va_S A s.heap H locs) (hw : Cond.arrayClass .long ∈ Ts) {n : Int32} {N' : Nat} (hn : ¬ n < 0) (hN : n.toNatClampNeg = N') (hby : N' * 8 ≤ 536870912) (hc : cells + 1 ≤ R.cells) (hs : slots + N' ≤ R.slots) (hdg : decode cc pc = .ok (.newarray .long, 2))
    (kk : ∀ (q : Nat) (H1 : Heap), va_P D vwCl (ws ++ [(q, .inl (cL, N', .inr (.inl (fun _ => 0))))]) H1 → va_D A (ws ++ [(q, .inl (cL, N', .inr (.inl (fun _ => 0))))]) → va_S A s.heap H1 locs → W p l e R s m args below meth c H1 locs (cells + 1) (slots + N') Q (F0 m (pc + 2) ls (.ref q :: rest))) :
    W p l e R s m args below meth c H locs cells slots Q (F0 m pc ls (.int n :: rest)) :=
  va_newa (atype := .long) (ty := .long) (a0 := (N', .inr (.inl (fun _ => 0)))) C0.1 C0.2.1 (C0.2.2.2.2.2.1 _ hw) rfl C0.2.2.2.2.2.2.2.1 hP hD hS hA (fun _ => rfl) hn hN hby hc hs hdg (fun q cA H1 hK1 hP1 hD1 hS1 => by
    have e : cA = cL := x_sameArr hK1 (fun _ h => by cases h) 4 3 rfl rfl
    rw [e] at hP1 hD1
    exact kk q H1 hP1 hD1 hS1)
theorem x_joinc {S : Type} {post : S → Prop} {wf ws1 : S → va_W} {mc ms : Nat} (hr : va_Run p l e R s m args below meth c H locs cells slots mc ms (F0 m pc ls st0) rest (va_Qv post (fun u t => xE D (va_A wc H.size) (wf u) t) (va_A wc H.size) a9) (va_A wc H.size))
    (hP : va_P D vwCl ws H) (hD : va_D A ws) (hS : va_S A s.heap H locs) (hA : ∀ q : Nat, s.heap.size ≤ q → A q) (isC isR perm : List Nat) (hC : isC.map (fun i => ws[i]?) = wc.map some) (hR : isR.map (fun i => ws[i]?) = (isR.filterMap (fun i => ws[i]?)).map some) (hn : va_nd isR = true) (hdis : ∀ i ∈ isR, i ∉ isC)
    (hws : ∀ u, perm.map (fun i => ((isR.filterMap (fun i => ws[i]?)) ++ wf u)[i]?) = (ws1 u).map some) (hnp : va_nd perm = true)
    (kk : ∀ (u : S) (H1 : Heap) (locs1 : List Loc), post u → va_P D vwCl (ws1 u) H1 → va_D A (ws1 u) → va_S A s.heap H1 locs1 → W p l e R s m args below meth c H1 locs1 (cells + mc) (slots + ms) Q (F0 m (pc + 3) ls rest)) : W p l e R s m args below meth c H locs cells slots Q (F0 m pc ls st0) := by
  refine va_callv hr hS (fun q _ h => va_free hD hS hA isC hC q h) (va_free hD hS hA isC hC) (fun u t H1 locs1 ht _ hp hB _ hk1 hS1 => ?_)
  obtain ⟨hP1, hD1⟩ := hB
  rw [ht] at hP1
  obtain ⟨hP2, hD2⟩ := x_world hP hD hS hA isC isR perm hC hR hn hdis (hws u) hnp hk1 hP1 hD1
  exact kk u H1 locs1 hp hP2 hD2 hS1
variable {y : MethodName} {wsY wsY' : List Cond} {rmY : Room} {by0 : ByteArray} {mL idx n0 mc ms : Nat} {Qc : Array Value → State → Outcome → State → Prop} {b : Nat} {As av : List Value} {free : Addr → Prop}
theorem x_runC (C0 : xC p s m args meth c cc nL ret Ts own D TY) (hM : Met l y wsY rmY (va_Pc (.ref b :: As) (xB D TY H.size wc)) Qc mc ms free) (hG : GoodIn Ts wsY) (hw : wsY = Cond.code y by0 mL none :: wsY') (hz : rmY.cells = mc ∧ rmY.slots = ms) (hini : Cond.initialized y.cls ∈ Ts) (hl : Cond.methodLink own idx y ∈ Ts) (hin : Cond.instanceMethod y ∈ Ts) (hnm : y.name = "<init>")
    (hd : y.cls ≠ "java/lang/invoke/MethodHandle" ∧ y.cls ≠ "java/lang/invoke/VarHandle" ∧ (parseMethodDescriptor y.desc).map (fun d => d.parameters.length) = some n0) (hlen : As.length = n0) (hR : rmY.frames + 1 ≤ R.frames ∧ 8 + (mL + 11) + rmY.locals ≤ R.locals) (hcs : cells + mc ≤ R.cells ∧ slots + ms ≤ R.slots)
    (hP : va_P D vwCl ws H) (hD : va_D A ws) (isC : List Nat) (hC : isC.map (fun i => ws[i]?) = wc.map some) (hnC : va_nd isC = true)
    (hsize : ls.size = nL) (hst : st0 = As.reverse ++ .ref b :: rest) (hW : (rest.map fun v => v.category).sum ≤ 8) (hdg : decode cc pc = .ok (.invokespecial idx, 3)) :
    va_Run p l e R s m args below meth c H locs cells slots mc ms (F0 m pc ls st0) rest (Qc (Value.ref b :: As).toArray) free :=
  va_runI ⟨C0.1, C0.2.1, C0.2.2.2.1, C0.2.2.2.2.1, C0.2.2.2.2.2.1⟩ hM (cwI n0 C0.2.2.2.2.2.1 hG hw hz.1 hz.2 (C0.2.2.2.2.2.1 _ hini) (C0.2.2.2.2.2.1 _ hl) (C0.2.2.2.2.2.1 _ hin) hnm hd hR) (x_pre C0 hP hD isC hC hnC) rfl hlen hsize hst (lv_room hW) hdg hcs
theorem x_runCN {host : String} (C0 : xC p s m args meth c cc nL ret Ts own D TY) (hM : Met l y wsY rmY (va_Pc (.ref b :: As) (xB D TY H.size wc)) Qc mc ms free) (hG : GoodIn Ts wsY) (hw : wsY = Cond.code y by0 mL none :: wsY') (hz : rmY.cells = mc ∧ rmY.slots = ms) (hini : Cond.initialized y.cls ∈ Ts) (hl : va_Nw (.methodLinkNest own idx y host) s) (hin : Cond.instanceMethod y ∈ Ts) (hnm : y.name = "<init>")
    (hd : y.cls ≠ "java/lang/invoke/MethodHandle" ∧ y.cls ≠ "java/lang/invoke/VarHandle" ∧ (parseMethodDescriptor y.desc).map (fun d => d.parameters.length) = some n0) (hlen : As.length = n0) (hR : rmY.frames + 1 ≤ R.frames ∧ 8 + (mL + 11) + rmY.locals ≤ R.locals) (hcs : cells + mc ≤ R.cells ∧ slots + ms ≤ R.slots)
    (hP : va_P D vwCl ws H) (hD : va_D A ws) (isC : List Nat) (hC : isC.map (fun i => ws[i]?) = wc.map some) (hnC : va_nd isC = true)
    (hsize : ls.size = nL) (hst : st0 = As.reverse ++ .ref b :: rest) (hW : (rest.map fun v => v.category).sum ≤ 8) (hdg : decode cc pc = .ok (.invokespecial idx, 3)) :
    va_Run p l e R s m args below meth c H locs cells slots mc ms (F0 m pc ls st0) rest (Qc (Value.ref b :: As).toArray) free :=
  va_runIN ⟨C0.1, C0.2.1, C0.2.2.2.1, C0.2.2.2.2.1, C0.2.2.2.2.2.1⟩ hM ⟨va_cnB n0 C0.2.2.2.2.2.1 hG hw hz.1 hz.2 hl (C0.2.2.2.2.2.1 _ hini) hd hR, hnm, C0.2.2.2.2.2.1 _ hin⟩ (x_pre C0 hP hD isC hC hnC) rfl hlen hsize hst (lv_room hW) hdg hcs
theorem x_retc {S : Type} {post : S → Prop} {wf : S → va_W} (C0 : xC p s m args meth c cc nL none Ts own D TY) (u : S) (hk : post u) (hP : va_P D vwCl (wf u) H) (hD : va_D A (wf u)) (hS : va_S A s.heap H locs) (d : decode cc pc = .ok (.return_, 1)) :
    W p l e R s m args below meth c H locs cells slots (MQ below (va_Qv post (fun u t => xE D A (wf u) t) A) args s cells slots A) (F0 m pc ls []) := x_retv C0 u hk hP hD hS d
end XNEW

set_option maxRecDepth 20000 in
theorem xin_X3_init_X3 : ∀ w ∈ u_ws RX3 TX3 1, w ∈ wsX3_init := by decide +kernel
set_option maxHeartbeats 4000000 in
set_option maxRecDepth 100000 in
theorem xc_X3_init (l : Launch) (D : va_G) (cI cC cZ cL : ClassId) (h : Nat) (sz : Nat) (K : (Nat → Int32) → Prop) (hk : xp_X3_reset (fun _ => 0) K) : XMc l yX3_init wsX3_init ({ frames := 2, cells := 1, slots := 400, locals := 43 } : Room) D (xTY cI cC cZ cL) [.ref h] [(h, .inr (3, [.null]))] sz (fun (u : Nat × (Nat → Int32)) => K u.2) (fun (u : Nat × (Nat → Int32)) => [(h, .inr (3, [.ref u.1])), (u.1, .inl (cI, 400, .inl u.2))]) 1 400 := by
  refine x_enterC (cc := cX3_init) (maxL := 1) (ret := none) (own := RX3) (by decide) rfl rfl rfl (Nat.le_of_ble_eq_true rfl) (fun p e s m below meth c ls C0 hin hA hP hD hS hl => ?_)
  obtain ⟨hx, hb, hr, hml, hown, hts, hlocks, hK, hN⟩ := id C0
  have hl : lv_has ls 1 [(0, .ref h)] := hl
  generalize hAe : va_A [(h, .inr (3, [.null]))] sz = A at hA hD hS ⊢
  refine lv_aload_n hx hb dX3_init_0 rfl (lv_at hl 0 rfl) ?_
  refine W.objInit hx hb hown (hts (.methodLink RX3 3 objectInit) (by decide +kernel)) (hts (.instanceMethod objectInit) (by decide +kernel)) (hts (.code objectInit ⟨#[0xb1]⟩ 1 none) (by decide +kernel)) rfl (by rw [hml]; exact hl.1) rfl dX3_init_1 (Nat.le_of_ble_eq_true rfl) (Nat.le_of_ble_eq_true rfl) ?_
  refine W.eq (g2 := F0 m 4 ls []) rfl ?_
  refine lv_aload_n hx hb dX3_init_4 rfl (lv_at hl 0 rfl) ?_
  refine lv_sipush (v := 400) hx hb dX3_init_5 (by decide) ?_
  refine x_newI (N' := 400) C0 hA hP hD hS (by decide +kernel) (by decide) rfl (by decide) (by decide) (by decide) dX3_init_8 (fun q1 H hP hD hS => ?_)
  have hP : va_P D vwCl [(h, .inr (3, [.null])), (q1, .inl (cI, 400, .inl (fun _ => 0)))] H := hP
  have hD : va_D A [(h, .inr (3, [.null])), (q1, .inl (cI, 400, .inl (fun _ => 0)))] := hD
  refine W.widen (k := 1) (n := 400) (by omega) (by omega) ?_
  refine va_putF (D := D) (ci := 3) (v := .ref q1) (ty := .array .int) (C := RX3) (T := TX3) (N := 1) hx hb hts xin_X3_init_X3 tyX3 tyX3_ok nmX3 hown hK hP hD hS 0 rfl rfl 0 (by decide) (hts (.fieldLink RX3 9 "TakeLog$State" "cells" "[I") (by decide +kernel)) (fun _ h9 => h9) rfl hin rfl (by decide +kernel) rfl rfl (Nat.le_of_ble_eq_true rfl) dX3_init_10 (fun H locs hP hD hS => ?_)
  have hP : va_P D vwCl [(h, .inr (3, [.ref q1])), (q1, .inl (cI, 400, .inl (fun _ => 0)))] H := hP
  have hD : va_D A [(h, .inr (3, [.ref q1])), (q1, .inl (cI, 400, .inl (fun _ => 0)))] := hD
  refine lv_aload_n hx hb dX3_init_13 rfl (lv_at hl 0 rfl) ?_
  refine x_joinv (ws1 := fun (u2 : Nat → Int32) => [(h, .inr (3, [.ref q1])), (q1, .inl (cI, 400, .inl u2))]) (x_runV (n0 := 0) (As := []) (rest := []) C0 (xc_X3_reset l D cI cC cZ cL h q1 H.size (fun _ => 0) _ hk) gX3_init_X3_reset rfl ⟨rfl, rfl⟩ (by decide +kernel) rfl ⟨by decide, by decide⟩ ⟨by decide, by decide⟩ hP hD [0, 1] rfl rfl (k := 0) rfl rfl rfl hl.1 rfl (Nat.le_of_ble_eq_true rfl) dX3_init_14) hP hD hS hA [0, 1] [] [0, 1] rfl rfl rfl (by decide) (fun _ => rfl) rfl (fun u2 H locs hk hP hD hS => ?_)
  exact x_retc C0 (q1, u2) hk hP hD hS dX3_init_17
set_option maxRecDepth 20000 in
theorem xin_X2_init_X2 : ∀ w ∈ u_ws RX2 TX2 2, w ∈ wsX2_init := by decide +kernel
set_option maxHeartbeats 4000000 in
set_option maxRecDepth 100000 in
theorem xc_X2_init (l : Launch) (D : va_G) (cI cC cZ cL : ClassId) (h : Nat) (sz : Nat) (x1 : Int32) (N : Nat) (h0 : ¬ x1 * 400 < 0) (hNN : (x1 * 400).toNatClampNeg = N) (hN2 : N ≤ 5600) : XMc l yX2_init wsX2_init ({ frames := 1, cells := 1, slots := N, locals := 12 } : Room) D (xTY cI cC cZ cL) [.ref h, .int x1] [(h, .inr (2, [.null, .int 0]))] sz (fun (u : Nat) => True) (fun (u : Nat) => [(h, .inr (2, [.ref u, .int x1])), (u, .inl (cI, N, .inl (fun _ => 0)))]) 1 N := by
  refine x_enterC (cc := cX2_init) (maxL := 2) (ret := none) (own := RX2) (by decide) rfl rfl rfl (Nat.le_of_ble_eq_true rfl) (fun p e s m below meth c ls C0 hin hA hP hD hS hl => ?_)
  obtain ⟨hx, hb, hr, hml, hown, hts, hlocks, hK, hN⟩ := id C0
  have hl : lv_has ls 2 [(0, .ref h), (1, .int x1)] := hl
  generalize hAe : va_A [(h, .inr (2, [.null, .int 0]))] sz = A at hA hD hS ⊢
  refine lv_aload_n hx hb dX2_init_0 rfl (lv_at hl 0 rfl) ?_
  refine W.objInit hx hb hown (hts (.methodLink RX2 3 objectInit) (by decide +kernel)) (hts (.instanceMethod objectInit) (by decide +kernel)) (hts (.code objectInit ⟨#[0xb1]⟩ 1 none) (by decide +kernel)) rfl (by rw [hml]; exact hl.1) rfl dX2_init_1 (Nat.le_of_ble_eq_true rfl) (Nat.le_of_ble_eq_true rfl) ?_
  refine W.eq (g2 := F0 m 4 ls []) rfl ?_
  refine lv_aload_n hx hb dX2_init_4 rfl (lv_at hl 0 rfl) ?_
  refine lv_iload_n hx hb dX2_init_5 rfl (lv_at hl 1 rfl) ?_
  refine va_putF (D := D) (ci := 2) (v := .int x1) (ty := .int) (C := RX2) (T := TX2) (N := 2) hx hb hts xin_X2_init_X2 tyX2 tyX2_ok nmX2 hown hK hP hD hS 0 rfl rfl 1 (by decide) (hts (.fieldLink RX2 9 "TakeLog$Shelf" "places" "I") (by decide +kernel)) (fun _ h9 => h9) rfl hin rfl (by decide +kernel) rfl rfl (Nat.le_of_ble_eq_true rfl) dX2_init_6 (fun H locs hP hD hS => ?_)
  have hP : va_P D vwCl [(h, .inr (2, [.null, .int x1]))] H := hP
  have hD : va_D A [(h, .inr (2, [.null, .int x1]))] := hD
  refine lv_aload_n hx hb dX2_init_9 rfl (lv_at hl 0 rfl) ?_
  refine lv_iload_n hx hb dX2_init_10 rfl (lv_at hl 1 rfl) ?_
  refine lv_sipush (v := 400) hx hb dX2_init_11 (by decide) ?_
  refine lv_imul hx hb dX2_init_14 ?_
  refine x_newI (N' := N) C0 hA hP hD hS (by decide +kernel) h0 hNN (by omega) (by show 0 + 1 ≤ 1; omega) (by show 0 + N ≤ N; omega) dX2_init_15 (fun q1 H hP hD hS => ?_)
  have hP : va_P D vwCl [(h, .inr (2, [.null, .int x1])), (q1, .inl (cI, N, .inl (fun _ => 0)))] H := hP
  have hD : va_D A [(h, .inr (2, [.null, .int x1])), (q1, .inl (cI, N, .inl (fun _ => 0)))] := hD
  refine W.widen (k := 1) (n := N) (by omega) (by omega) ?_
  refine va_putF (D := D) (ci := 2) (v := .ref q1) (ty := .array .int) (C := RX2) (T := TX2) (N := 2) hx hb hts xin_X2_init_X2 tyX2 tyX2_ok nmX2 hown hK hP hD hS 0 rfl rfl 0 (by decide) (hts (.fieldLink RX2 15 "TakeLog$Shelf" "cells" "[I") (by decide +kernel)) (fun _ h9 => h9) rfl hin rfl (by decide +kernel) rfl rfl (Nat.le_of_ble_eq_true rfl) dX2_init_17 (fun H locs hP hD hS => ?_)
  have hP : va_P D vwCl [(h, .inr (2, [.ref q1, .int x1])), (q1, .inl (cI, N, .inl (fun _ => 0)))] H := hP
  have hD : va_D A [(h, .inr (2, [.ref q1, .int x1])), (q1, .inl (cI, N, .inl (fun _ => 0)))] := hD
  exact x_retc C0 q1 trivial hP hD hS dX2_init_20
set_option maxRecDepth 20000 in
theorem xin_X0_init_X0 : ∀ w ∈ u_ws RX0 TX0 7, w ∈ wsX0_init := by decide +kernel
set_option maxHeartbeats 4000000 in
set_option maxRecDepth 100000 in
theorem xc_X0_init (l : Launch) (D : va_G) (cI cC cZ cL : ClassId) (h : Nat) (sz : Nat)   : XMc l yX0_init wsX0_init ({ frames := 1, cells := 1, slots := 120, locals := 12 } : Room) D (xTY cI cC cZ cL) [.ref h] [(h, .inr (0, [.null, .int 0, .int 0, .int 0, .int 0, .int 0, .int 0]))] sz (fun (u : Nat) => True) (fun (u : Nat) => [(h, .inr (0, [.ref u, .int 0, .int 0, .int 0, .int 0, .int 0, .int 0])), (u, .inl (cC, 120, .inl (fun _ => 0)))]) 1 120 := by
  refine x_enterC (cc := cX0_init) (maxL := 1) (ret := none) (own := RX0) (by decide) rfl rfl rfl (Nat.le_of_ble_eq_true rfl) (fun p e s m below meth c ls C0 hin hA hP hD hS hl => ?_)
  obtain ⟨hx, hb, hr, hml, hown, hts, hlocks, hK, hN⟩ := id C0
  have hl : lv_has ls 1 [(0, .ref h)] := hl
  generalize hAe : va_A [(h, .inr (0, [.null, .int 0, .int 0, .int 0, .int 0, .int 0, .int 0]))] sz = A at hA hD hS ⊢
  refine lv_aload_n hx hb dX0_init_0 rfl (lv_at hl 0 rfl) ?_
  refine W.objInit hx hb hown (hts (.methodLink RX0 3 objectInit) (by decide +kernel)) (hts (.instanceMethod objectInit) (by decide +kernel)) (hts (.code objectInit ⟨#[0xb1]⟩ 1 none) (by decide +kernel)) rfl (by rw [hml]; exact hl.1) rfl dX0_init_1 (Nat.le_of_ble_eq_true rfl) (Nat.le_of_ble_eq_true rfl) ?_
  refine W.eq (g2 := F0 m 4 ls []) rfl ?_
  refine lv_aload_n hx hb dX0_init_4 rfl (lv_at hl 0 rfl) ?_
  refine lv_bipush (v := 120) hx hb dX0_init_5 (by decide) ?_
  refine x_newC (N' := 120) C0 hA hP hD hS (by decide +kernel) (by decide) rfl (by decide) (by decide) (by decide) dX0_init_7 (fun q1 H hP hD hS => ?_)
  have hP : va_P D vwCl [(h, .inr (0, [.null, .int 0, .int 0, .int 0, .int 0, .int 0, .int 0])), (q1, .inl (cC, 120, .inl (fun _ => 0)))] H := hP
  have hD : va_D A [(h, .inr (0, [.null, .int 0, .int 0, .int 0, .int 0, .int 0, .int 0])), (q1, .inl (cC, 120, .inl (fun _ => 0)))] := hD
  refine W.widen (k := 1) (n := 120) (by omega) (by omega) ?_
  refine va_putF (D := D) (ci := 0) (v := .ref q1) (ty := .array .char) (C := RX0) (T := TX0) (N := 7) hx hb hts xin_X0_init_X0 tyX0 tyX0_ok nmX0 hown hK hP hD hS 0 rfl rfl 0 (by decide) (hts (.fieldLink RX0 11 "TakeLog$Day" "signs" "[C") (by decide +kernel)) (fun _ h9 => h9) rfl hin rfl (by decide +kernel) rfl rfl (Nat.le_of_ble_eq_true rfl) dX0_init_9 (fun H locs hP hD hS => ?_)
  have hP : va_P D vwCl [(h, .inr (0, [.ref q1, .int 0, .int 0, .int 0, .int 0, .int 0, .int 0])), (q1, .inl (cC, 120, .inl (fun _ => 0)))] H := hP
  have hD : va_D A [(h, .inr (0, [.ref q1, .int 0, .int 0, .int 0, .int 0, .int 0, .int 0])), (q1, .inl (cC, 120, .inl (fun _ => 0)))] := hD
  exact x_retc C0 q1 trivial hP hD hS dX0_init_12
set_option maxRecDepth 20000 in
theorem xin_X1_init_X1 : ∀ w ∈ u_ws RX1 TX1 2, w ∈ wsX1_init := by decide +kernel
set_option maxHeartbeats 4000000 in
set_option maxRecDepth 100000 in
theorem xc_X1_init (l : Launch) (D : va_G) (cI cC cZ cL : ClassId) (h : Nat) (sz : Nat)   : XMc l yX1_init wsX1_init ({ frames := 1, cells := 1, slots := 80, locals := 12 } : Room) D (xTY cI cC cZ cL) [.ref h] [(h, .inr (1, [.null, .int 0]))] sz (fun (u : Nat) => True) (fun (u : Nat) => [(h, .inr (1, [.ref u, .int 0])), (u, .inl (cC, 80, .inl (fun _ => 0)))]) 1 80 := by
  refine x_enterC (cc := cX1_init) (maxL := 1) (ret := none) (own := RX1) (by decide) rfl rfl rfl (Nat.le_of_ble_eq_true rfl) (fun p e s m below meth c ls C0 hin hA hP hD hS hl => ?_)
  obtain ⟨hx, hb, hr, hml, hown, hts, hlocks, hK, hN⟩ := id C0
  have hl : lv_has ls 1 [(0, .ref h)] := hl
  generalize hAe : va_A [(h, .inr (1, [.null, .int 0]))] sz = A at hA hD hS ⊢
  refine lv_aload_n hx hb dX1_init_0 rfl (lv_at hl 0 rfl) ?_
  refine W.objInit hx hb hown (hts (.methodLink RX1 3 objectInit) (by decide +kernel)) (hts (.instanceMethod objectInit) (by decide +kernel)) (hts (.code objectInit ⟨#[0xb1]⟩ 1 none) (by decide +kernel)) rfl (by rw [hml]; exact hl.1) rfl dX1_init_1 (Nat.le_of_ble_eq_true rfl) (Nat.le_of_ble_eq_true rfl) ?_
  refine W.eq (g2 := F0 m 4 ls []) rfl ?_
  refine lv_aload_n hx hb dX1_init_4 rfl (lv_at hl 0 rfl) ?_
  refine lv_bipush (v := 80) hx hb dX1_init_5 (by decide) ?_
  refine x_newC (N' := 80) C0 hA hP hD hS (by decide +kernel) (by decide) rfl (by decide) (by decide) (by decide) dX1_init_7 (fun q1 H hP hD hS => ?_)
  have hP : va_P D vwCl [(h, .inr (1, [.null, .int 0])), (q1, .inl (cC, 80, .inl (fun _ => 0)))] H := hP
  have hD : va_D A [(h, .inr (1, [.null, .int 0])), (q1, .inl (cC, 80, .inl (fun _ => 0)))] := hD
  refine W.widen (k := 1) (n := 80) (by omega) (by omega) ?_
  refine va_putF (D := D) (ci := 1) (v := .ref q1) (ty := .array .char) (C := RX1) (T := TX1) (N := 2) hx hb hts xin_X1_init_X1 tyX1 tyX1_ok nmX1 hown hK hP hD hS 0 rfl rfl 0 (by decide) (hts (.fieldLink RX1 11 "TakeLog$Line" "signs" "[C") (by decide +kernel)) (fun _ h9 => h9) rfl hin rfl (by decide +kernel) rfl rfl (Nat.le_of_ble_eq_true rfl) dX1_init_9 (fun H locs hP hD hS => ?_)
  have hP : va_P D vwCl [(h, .inr (1, [.ref q1, .int 0])), (q1, .inl (cC, 80, .inl (fun _ => 0)))] H := hP
  have hD : va_D A [(h, .inr (1, [.ref q1, .int 0])), (q1, .inl (cC, 80, .inl (fun _ => 0)))] := hD
  exact x_retc C0 q1 trivial hP hD hS dX1_init_12
set_option maxRecDepth 20000 in
theorem xin_X4_init_X0 : ∀ w ∈ u_ws RX0 TX0 7, w ∈ wsX4_init := by decide +kernel
set_option maxRecDepth 20000 in
theorem xin_X4_init_X1 : ∀ w ∈ u_ws RX1 TX1 2, w ∈ wsX4_init := by decide +kernel
set_option maxRecDepth 20000 in
theorem xin_X4_init_X2 : ∀ w ∈ u_ws RX2 TX2 2, w ∈ wsX4_init := by decide +kernel
set_option maxRecDepth 20000 in
theorem xin_X4_init_X3 : ∀ w ∈ u_ws RX3 TX3 1, w ∈ wsX4_init := by decide +kernel
set_option maxRecDepth 20000 in
theorem xin_X4_init_X4 : ∀ w ∈ u_ws RX4 TX4 9, w ∈ wsX4_init := by decide +kernel
set_option maxHeartbeats 4000000 in
set_option maxRecDepth 100000 in
theorem xc_X4_init (l : Launch) (D : va_G) (cI cC cZ cL : ClassId) (h : Nat) (sz : Nat) (K : (Nat → Int32) → (Nat → Int32) → Prop) (hk : xp_X3_reset (fun _ => 0) (fun u1 => xp_X3_reset (fun _ => 0) (fun u2 => K u1 u2))) : XMc l yX4_init wsX4_init ({ frames := 3, cells := 13, slots := 7417, locals := 63 } : Room) D (xTY cI cC cZ cL) [.ref h] [(h, .inr (4, [.null, .null, .null, .null, .null, .null, .null, .int 0, .int 0]))] sz (fun (u : (Nat → Nat) × (Nat → Int32) × (Nat → Int32)) => K u.2.1 u.2.2) (fun (u : (Nat → Nat) × (Nat → Int32) × (Nat → Int32)) => [(h, .inr (4, [.ref (u.1 0), .ref (u.1 2), .ref (u.1 4), .ref (u.1 6), .ref (u.1 8), .ref (u.1 9), .ref (u.1 11), .int 0, .int 0])), (u.1 0, .inr (3, [.ref (u.1 1)])), (u.1 1, .inl (cI, 400, .inl u.2.1)), (u.1 2, .inr (3, [.ref (u.1 3)])), (u.1 3, .inl (cI, 400, .inl u.2.2)), (u.1 4, .inr (2, [.ref (u.1 5), .int 14])), (u.1 5, .inl (cI, 5600, .inl (fun _ => 0))), (u.1 6, .inr (2, [.ref (u.1 7), .int 2])), (u.1 7, .inl (cI, 800, .inl (fun _ => 0))), (u.1 8, .inl (cZ, 2, .inl (fun _ => 0))), (u.1 9, .inr (0, [.ref (u.1 10), .int 0, .int 0, .int 0, .int 0, .int 0, .int 0])), (u.1 10, .inl (cC, 120, .inl (fun _ => 0))), (u.1 11, .inr (1, [.ref (u.1 12), .int 0])), (u.1 12, .inl (cC, 80, .inl (fun _ => 0)))]) 13 7417 := by
  refine x_enterC (cc := cX4_init) (maxL := 1) (ret := none) (own := RX4) (by decide) rfl rfl rfl (Nat.le_of_ble_eq_true rfl) (fun p e s m below meth c ls C0 hin hA hP hD hS hl => ?_)
  obtain ⟨hx, hb, hr, hml, hown, hts, hlocks, hK, hN⟩ := id C0
  have hl : lv_has ls 1 [(0, .ref h)] := hl
  generalize hAe : va_A [(h, .inr (4, [.null, .null, .null, .null, .null, .null, .null, .int 0, .int 0]))] sz = A at hA hD hS ⊢
  refine lv_aload_n hx hb dX4_init_0 rfl (lv_at hl 0 rfl) ?_
  refine W.objInit hx hb hown (hts (.methodLink RX4 3 objectInit) (by decide +kernel)) (hts (.instanceMethod objectInit) (by decide +kernel)) (hts (.code objectInit ⟨#[0xb1]⟩ 1 none) (by decide +kernel)) rfl (by rw [hml]; exact hl.1) rfl dX4_init_1 (Nat.le_of_ble_eq_true rfl) (Nat.le_of_ble_eq_true rfl) ?_
  refine W.eq (g2 := F0 m 4 ls []) rfl ?_
  refine lv_aload_n hx hb dX4_init_4 rfl (lv_at hl 0 rfl) ?_
  refine va_new (ci := 3) (fs := [.null]) (C := RX3) (T := TX3) (N := 1) hx hb hts xin_X4_init_X3 tyX3 tyX3_ok hown (hts (.classLink RX4 9 RX3) (by decide +kernel)) (hts (.instantiable RX3 1) (by decide +kernel)) (hts (.initialized RX3) (by decide +kernel)) hK hP hD hS hA rfl (fun j hj => by rcases (show j = 0 by omega) with rfl <;> rfl) (by decide) (by decide) dX4_init_5 (fun o1 H hP hD hS => ?_)
  have hP : va_P D vwCl [(h, .inr (4, [.null, .null, .null, .null, .null, .null, .null, .int 0, .int 0])), (o1, .inr (3, [.null]))] H := hP
  have hD : va_D A [(h, .inr (4, [.null, .null, .null, .null, .null, .null, .null, .int 0, .int 0])), (o1, .inr (3, [.null]))] := hD
  refine W.widen (k := 1) (n := 1) (by omega) (by omega) ?_
  refine lv_dup hx hb dX4_init_8 rfl ?_
  refine x_joinc (ws1 := fun (u2 : Nat × (Nat → Int32)) => [(h, .inr (4, [.null, .null, .null, .null, .null, .null, .null, .int 0, .int 0])), (o1, .inr (3, [.ref u2.1])), (u2.1, .inl (cI, 400, .inl u2.2))]) (x_runC (n0 := 0) (As := []) (rest := [.ref o1, .ref h]) C0 (xc_X3_init l D cI cC cZ cL o1 H.size _ hk) gX4_init_X3_init rfl ⟨rfl, rfl⟩ (by decide +kernel) (by decide +kernel) (by decide +kernel) rfl (by decide +kernel) rfl ⟨by decide, by decide⟩ ⟨by decide, by decide⟩ hP hD [1] rfl rfl hl.1 rfl (Nat.le_of_ble_eq_true rfl) dX4_init_9) hP hD hS hA [1] [0] [0, 1, 2] rfl rfl rfl (by decide) (fun _ => rfl) rfl (fun u2 H locs hk hP hD hS => ?_)
  refine W.widen (k := 2) (n := 401) (by omega) (by omega) ?_
  refine va_putF (D := D) (ci := 4) (v := .ref o1) (ty := .object "TakeLog$State") (C := RX4) (T := TX4) (N := 9) hx hb hts xin_X4_init_X4 tyX4 tyX4_ok nmX4 hown hK hP hD hS 0 rfl rfl 0 (by decide) (hts (.fieldLink RX4 12 "TakeLog" "now" "LTakeLog$State;") (by decide +kernel)) (fun _ h9 => h9) rfl hin rfl (by decide +kernel) rfl rfl (Nat.le_of_ble_eq_true rfl) dX4_init_12 (fun H locs hP hD hS => ?_)
  have hP : va_P D vwCl [(h, .inr (4, [.ref o1, .null, .null, .null, .null, .null, .null, .int 0, .int 0])), (o1, .inr (3, [.ref u2.1])), (u2.1, .inl (cI, 400, .inl u2.2))] H := hP
  have hD : va_D A [(h, .inr (4, [.ref o1, .null, .null, .null, .null, .null, .null, .int 0, .int 0])), (o1, .inr (3, [.ref u2.1])), (u2.1, .inl (cI, 400, .inl u2.2))] := hD
  refine lv_aload_n hx hb dX4_init_15 rfl (lv_at hl 0 rfl) ?_
  refine va_new (ci := 3) (fs := [.null]) (C := RX3) (T := TX3) (N := 1) hx hb hts xin_X4_init_X3 tyX3 tyX3_ok hown (hts (.classLink RX4 9 RX3) (by decide +kernel)) (hts (.instantiable RX3 1) (by decide +kernel)) (hts (.initialized RX3) (by decide +kernel)) hK hP hD hS hA rfl (fun j hj => by rcases (show j = 0 by omega) with rfl <;> rfl) (by decide) (by decide) dX4_init_16 (fun o3 H hP hD hS => ?_)
  have hP : va_P D vwCl [(h, .inr (4, [.ref o1, .null, .null, .null, .null, .null, .null, .int 0, .int 0])), (o1, .inr (3, [.ref u2.1])), (u2.1, .inl (cI, 400, .inl u2.2)), (o3, .inr (3, [.null]))] H := hP
  have hD : va_D A [(h, .inr (4, [.ref o1, .null, .null, .null, .null, .null, .null, .int 0, .int 0])), (o1, .inr (3, [.ref u2.1])), (u2.1, .inl (cI, 400, .inl u2.2)), (o3, .inr (3, [.null]))] := hD
  refine W.widen (k := 3) (n := 402) (by omega) (by omega) ?_
  refine lv_dup hx hb dX4_init_19 rfl ?_
  refine x_joinc (ws1 := fun (u4 : Nat × (Nat → Int32)) => [(h, .inr (4, [.ref o1, .null, .null, .null, .null, .null, .null, .int 0, .int 0])), (o1, .inr (3, [.ref u2.1])), (u2.1, .inl (cI, 400, .inl u2.2)), (o3, .inr (3, [.ref u4.1])), (u4.1, .inl (cI, 400, .inl u4.2))]) (x_runC (n0 := 0) (As := []) (rest := [.ref o3, .ref h]) C0 (xc_X3_init l D cI cC cZ cL o3 H.size _ hk) gX4_init_X3_init rfl ⟨rfl, rfl⟩ (by decide +kernel) (by decide +kernel) (by decide +kernel) rfl (by decide +kernel) rfl ⟨by decide, by decide⟩ ⟨by decide, by decide⟩ hP hD [3] rfl rfl hl.1 rfl (Nat.le_of_ble_eq_true rfl) dX4_init_20) hP hD hS hA [3] [0, 1, 2] [0, 1, 2, 3, 4] rfl rfl rfl (by decide) (fun _ => rfl) rfl (fun u4 H locs hk hP hD hS => ?_)
  refine W.widen (k := 4) (n := 802) (by omega) (by omega) ?_
  refine va_putF (D := D) (ci := 4) (v := .ref o3) (ty := .object "TakeLog$State") (C := RX4) (T := TX4) (N := 9) hx hb hts xin_X4_init_X4 tyX4 tyX4_ok nmX4 hown hK hP hD hS 0 rfl rfl 1 (by decide) (hts (.fieldLink RX4 16 "TakeLog" "copy" "LTakeLog$State;") (by decide +kernel)) (fun _ h9 => h9) rfl hin rfl (by decide +kernel) rfl rfl (Nat.le_of_ble_eq_true rfl) dX4_init_23 (fun H locs hP hD hS => ?_)
  have hP : va_P D vwCl [(h, .inr (4, [.ref o1, .ref o3, .null, .null, .null, .null, .null, .int 0, .int 0])), (o1, .inr (3, [.ref u2.1])), (u2.1, .inl (cI, 400, .inl u2.2)), (o3, .inr (3, [.ref u4.1])), (u4.1, .inl (cI, 400, .inl u4.2))] H := hP
  have hD : va_D A [(h, .inr (4, [.ref o1, .ref o3, .null, .null, .null, .null, .null, .int 0, .int 0])), (o1, .inr (3, [.ref u2.1])), (u2.1, .inl (cI, 400, .inl u2.2)), (o3, .inr (3, [.ref u4.1])), (u4.1, .inl (cI, 400, .inl u4.2))] := hD
  refine lv_aload_n hx hb dX4_init_26 rfl (lv_at hl 0 rfl) ?_
  refine va_new (ci := 2) (fs := [.null, .int 0]) (C := RX2) (T := TX2) (N := 2) hx hb hts xin_X4_init_X2 tyX2 tyX2_ok hown (hts (.classLink RX4 19 RX2) (by decide +kernel)) (hts (.instantiable RX2 2) (by decide +kernel)) (hts (.initialized RX2) (by decide +kernel)) hK hP hD hS hA rfl (fun j hj => by rcases (show j = 0 ∨ j = 1 by omega) with rfl | rfl <;> rfl) (by decide) (by decide) dX4_init_27 (fun o5 H hP hD hS => ?_)
  have hP : va_P D vwCl [(h, .inr (4, [.ref o1, .ref o3, .null, .null, .null, .null, .null, .int 0, .int 0])), (o1, .inr (3, [.ref u2.1])), (u2.1, .inl (cI, 400, .inl u2.2)), (o3, .inr (3, [.ref u4.1])), (u4.1, .inl (cI, 400, .inl u4.2)), (o5, .inr (2, [.null, .int 0]))] H := hP
  have hD : va_D A [(h, .inr (4, [.ref o1, .ref o3, .null, .null, .null, .null, .null, .int 0, .int 0])), (o1, .inr (3, [.ref u2.1])), (u2.1, .inl (cI, 400, .inl u2.2)), (o3, .inr (3, [.ref u4.1])), (u4.1, .inl (cI, 400, .inl u4.2)), (o5, .inr (2, [.null, .int 0]))] := hD
  refine W.widen (k := 5) (n := 804) (by omega) (by omega) ?_
  refine lv_dup hx hb dX4_init_30 rfl ?_
  refine lv_bipush (v := 14) hx hb dX4_init_31 (by decide) ?_
  refine x_joinc (ws1 := fun (u6 : Nat) => [(h, .inr (4, [.ref o1, .ref o3, .null, .null, .null, .null, .null, .int 0, .int 0])), (o1, .inr (3, [.ref u2.1])), (u2.1, .inl (cI, 400, .inl u2.2)), (o3, .inr (3, [.ref u4.1])), (u4.1, .inl (cI, 400, .inl u4.2)), (o5, .inr (2, [.ref u6, .int 14])), (u6, .inl (cI, 5600, .inl (fun _ => 0)))]) (x_runC (n0 := 1) (As := [.int 14]) (rest := [.ref o5, .ref h]) C0 (xc_X2_init l D cI cC cZ cL o5 H.size 14 5600 (by decide) (by decide) (by decide)) gX4_init_X2_init rfl ⟨rfl, rfl⟩ (by decide +kernel) (by decide +kernel) (by decide +kernel) rfl (by decide +kernel) rfl ⟨by decide, by decide⟩ ⟨by decide, by decide⟩ hP hD [5] rfl rfl hl.1 rfl (Nat.le_of_ble_eq_true rfl) dX4_init_33) hP hD hS hA [5] [0, 1, 2, 3, 4] [0, 1, 2, 3, 4, 5, 6] rfl rfl rfl (by decide) (fun _ => rfl) rfl (fun u6 H locs _ hP hD hS => ?_)
  refine W.widen (k := 6) (n := 6404) (by omega) (by omega) ?_
  refine va_putF (D := D) (ci := 4) (v := .ref o5) (ty := .object "TakeLog$Shelf") (C := RX4) (T := TX4) (N := 9) hx hb hts xin_X4_init_X4 tyX4 tyX4_ok nmX4 hown hK hP hD hS 0 rfl rfl 2 (by decide) (hts (.fieldLink RX4 24 "TakeLog" "past" "LTakeLog$Shelf;") (by decide +kernel)) (fun _ h9 => h9) rfl hin rfl (by decide +kernel) rfl rfl (Nat.le_of_ble_eq_true rfl) dX4_init_36 (fun H locs hP hD hS => ?_)
  have hP : va_P D vwCl [(h, .inr (4, [.ref o1, .ref o3, .ref o5, .null, .null, .null, .null, .int 0, .int 0])), (o1, .inr (3, [.ref u2.1])), (u2.1, .inl (cI, 400, .inl u2.2)), (o3, .inr (3, [.ref u4.1])), (u4.1, .inl (cI, 400, .inl u4.2)), (o5, .inr (2, [.ref u6, .int 14])), (u6, .inl (cI, 5600, .inl (fun _ => 0)))] H := hP
  have hD : va_D A [(h, .inr (4, [.ref o1, .ref o3, .ref o5, .null, .null, .null, .null, .int 0, .int 0])), (o1, .inr (3, [.ref u2.1])), (u2.1, .inl (cI, 400, .inl u2.2)), (o3, .inr (3, [.ref u4.1])), (u4.1, .inl (cI, 400, .inl u4.2)), (o5, .inr (2, [.ref u6, .int 14])), (u6, .inl (cI, 5600, .inl (fun _ => 0)))] := hD
  refine lv_aload_n hx hb dX4_init_39 rfl (lv_at hl 0 rfl) ?_
  refine va_new (ci := 2) (fs := [.null, .int 0]) (C := RX2) (T := TX2) (N := 2) hx hb hts xin_X4_init_X2 tyX2 tyX2_ok hown (hts (.classLink RX4 19 RX2) (by decide +kernel)) (hts (.instantiable RX2 2) (by decide +kernel)) (hts (.initialized RX2) (by decide +kernel)) hK hP hD hS hA rfl (fun j hj => by rcases (show j = 0 ∨ j = 1 by omega) with rfl | rfl <;> rfl) (by decide) (by decide) dX4_init_40 (fun o7 H hP hD hS => ?_)
  have hP : va_P D vwCl [(h, .inr (4, [.ref o1, .ref o3, .ref o5, .null, .null, .null, .null, .int 0, .int 0])), (o1, .inr (3, [.ref u2.1])), (u2.1, .inl (cI, 400, .inl u2.2)), (o3, .inr (3, [.ref u4.1])), (u4.1, .inl (cI, 400, .inl u4.2)), (o5, .inr (2, [.ref u6, .int 14])), (u6, .inl (cI, 5600, .inl (fun _ => 0))), (o7, .inr (2, [.null, .int 0]))] H := hP
  have hD : va_D A [(h, .inr (4, [.ref o1, .ref o3, .ref o5, .null, .null, .null, .null, .int 0, .int 0])), (o1, .inr (3, [.ref u2.1])), (u2.1, .inl (cI, 400, .inl u2.2)), (o3, .inr (3, [.ref u4.1])), (u4.1, .inl (cI, 400, .inl u4.2)), (o5, .inr (2, [.ref u6, .int 14])), (u6, .inl (cI, 5600, .inl (fun _ => 0))), (o7, .inr (2, [.null, .int 0]))] := hD
  refine W.widen (k := 7) (n := 6406) (by omega) (by omega) ?_
  refine lv_dup hx hb dX4_init_43 rfl ?_
  refine lv_iconst (v := 2) hx hb dX4_init_44 (by decide) ?_
  refine x_joinc (ws1 := fun (u8 : Nat) => [(h, .inr (4, [.ref o1, .ref o3, .ref o5, .null, .null, .null, .null, .int 0, .int 0])), (o1, .inr (3, [.ref u2.1])), (u2.1, .inl (cI, 400, .inl u2.2)), (o3, .inr (3, [.ref u4.1])), (u4.1, .inl (cI, 400, .inl u4.2)), (o5, .inr (2, [.ref u6, .int 14])), (u6, .inl (cI, 5600, .inl (fun _ => 0))), (o7, .inr (2, [.ref u8, .int 2])), (u8, .inl (cI, 800, .inl (fun _ => 0)))]) (x_runC (n0 := 1) (As := [.int 2]) (rest := [.ref o7, .ref h]) C0 (xc_X2_init l D cI cC cZ cL o7 H.size 2 800 (by decide) (by decide) (by decide)) gX4_init_X2_init rfl ⟨rfl, rfl⟩ (by decide +kernel) (by decide +kernel) (by decide +kernel) rfl (by decide +kernel) rfl ⟨by decide, by decide⟩ ⟨by decide, by decide⟩ hP hD [7] rfl rfl hl.1 rfl (Nat.le_of_ble_eq_true rfl) dX4_init_45) hP hD hS hA [7] [0, 1, 2, 3, 4, 5, 6] [0, 1, 2, 3, 4, 5, 6, 7, 8] rfl rfl rfl (by decide) (fun _ => rfl) rfl (fun u8 H locs _ hP hD hS => ?_)
  refine W.widen (k := 8) (n := 7206) (by omega) (by omega) ?_
  refine va_putF (D := D) (ci := 4) (v := .ref o7) (ty := .object "TakeLog$Shelf") (C := RX4) (T := TX4) (N := 9) hx hb hts xin_X4_init_X4 tyX4 tyX4_ok nmX4 hown hK hP hD hS 0 rfl rfl 3 (by decide) (hts (.fieldLink RX4 28 "TakeLog" "slots" "LTakeLog$Shelf;") (by decide +kernel)) (fun _ h9 => h9) rfl hin rfl (by decide +kernel) rfl rfl (Nat.le_of_ble_eq_true rfl) dX4_init_48 (fun H locs hP hD hS => ?_)
  have hP : va_P D vwCl [(h, .inr (4, [.ref o1, .ref o3, .ref o5, .ref o7, .null, .null, .null, .int 0, .int 0])), (o1, .inr (3, [.ref u2.1])), (u2.1, .inl (cI, 400, .inl u2.2)), (o3, .inr (3, [.ref u4.1])), (u4.1, .inl (cI, 400, .inl u4.2)), (o5, .inr (2, [.ref u6, .int 14])), (u6, .inl (cI, 5600, .inl (fun _ => 0))), (o7, .inr (2, [.ref u8, .int 2])), (u8, .inl (cI, 800, .inl (fun _ => 0)))] H := hP
  have hD : va_D A [(h, .inr (4, [.ref o1, .ref o3, .ref o5, .ref o7, .null, .null, .null, .int 0, .int 0])), (o1, .inr (3, [.ref u2.1])), (u2.1, .inl (cI, 400, .inl u2.2)), (o3, .inr (3, [.ref u4.1])), (u4.1, .inl (cI, 400, .inl u4.2)), (o5, .inr (2, [.ref u6, .int 14])), (u6, .inl (cI, 5600, .inl (fun _ => 0))), (o7, .inr (2, [.ref u8, .int 2])), (u8, .inl (cI, 800, .inl (fun _ => 0)))] := hD
  refine lv_aload_n hx hb dX4_init_51 rfl (lv_at hl 0 rfl) ?_
  refine lv_iconst (v := 2) hx hb dX4_init_52 (by decide) ?_
  refine x_newZ (N' := 2) C0 hA hP hD hS (by decide +kernel) (by decide) rfl (by decide) (by decide) (by decide) dX4_init_53 (fun q9 H hP hD hS => ?_)
  have hP : va_P D vwCl [(h, .inr (4, [.ref o1, .ref o3, .ref o5, .ref o7, .null, .null, .null, .int 0, .int 0])), (o1, .inr (3, [.ref u2.1])), (u2.1, .inl (cI, 400, .inl u2.2)), (o3, .inr (3, [.ref u4.1])), (u4.1, .inl (cI, 400, .inl u4.2)), (o5, .inr (2, [.ref u6, .int 14])), (u6, .inl (cI, 5600, .inl (fun _ => 0))), (o7, .inr (2, [.ref u8, .int 2])), (u8, .inl (cI, 800, .inl (fun _ => 0))), (q9, .inl (cZ, 2, .inl (fun _ => 0)))] H := hP
  have hD : va_D A [(h, .inr (4, [.ref o1, .ref o3, .ref o5, .ref o7, .null, .null, .null, .int 0, .int 0])), (o1, .inr (3, [.ref u2.1])), (u2.1, .inl (cI, 400, .inl u2.2)), (o3, .inr (3, [.ref u4.1])), (u4.1, .inl (cI, 400, .inl u4.2)), (o5, .inr (2, [.ref u6, .int 14])), (u6, .inl (cI, 5600, .inl (fun _ => 0))), (o7, .inr (2, [.ref u8, .int 2])), (u8, .inl (cI, 800, .inl (fun _ => 0))), (q9, .inl (cZ, 2, .inl (fun _ => 0)))] := hD
  refine W.widen (k := 9) (n := 7208) (by omega) (by omega) ?_
  refine va_putF (D := D) (ci := 4) (v := .ref q9) (ty := .array .boolean) (C := RX4) (T := TX4) (N := 9) hx hb hts xin_X4_init_X4 tyX4 tyX4_ok nmX4 hown hK hP hD hS 0 rfl rfl 4 (by decide) (hts (.fieldLink RX4 31 "TakeLog" "saved" "[Z") (by decide +kernel)) (fun _ h9 => h9) rfl hin rfl (by decide +kernel) rfl rfl (Nat.le_of_ble_eq_true rfl) dX4_init_55 (fun H locs hP hD hS => ?_)
  have hP : va_P D vwCl [(h, .inr (4, [.ref o1, .ref o3, .ref o5, .ref o7, .ref q9, .null, .null, .int 0, .int 0])), (o1, .inr (3, [.ref u2.1])), (u2.1, .inl (cI, 400, .inl u2.2)), (o3, .inr (3, [.ref u4.1])), (u4.1, .inl (cI, 400, .inl u4.2)), (o5, .inr (2, [.ref u6, .int 14])), (u6, .inl (cI, 5600, .inl (fun _ => 0))), (o7, .inr (2, [.ref u8, .int 2])), (u8, .inl (cI, 800, .inl (fun _ => 0))), (q9, .inl (cZ, 2, .inl (fun _ => 0)))] H := hP
  have hD : va_D A [(h, .inr (4, [.ref o1, .ref o3, .ref o5, .ref o7, .ref q9, .null, .null, .int 0, .int 0])), (o1, .inr (3, [.ref u2.1])), (u2.1, .inl (cI, 400, .inl u2.2)), (o3, .inr (3, [.ref u4.1])), (u4.1, .inl (cI, 400, .inl u4.2)), (o5, .inr (2, [.ref u6, .int 14])), (u6, .inl (cI, 5600, .inl (fun _ => 0))), (o7, .inr (2, [.ref u8, .int 2])), (u8, .inl (cI, 800, .inl (fun _ => 0))), (q9, .inl (cZ, 2, .inl (fun _ => 0)))] := hD
  refine lv_aload_n hx hb dX4_init_58 rfl (lv_at hl 0 rfl) ?_
  refine va_new (ci := 0) (fs := [.null, .int 0, .int 0, .int 0, .int 0, .int 0, .int 0]) (C := RX0) (T := TX0) (N := 7) hx hb hts xin_X4_init_X0 tyX0 tyX0_ok hown (hts (.classLink RX4 35 RX0) (by decide +kernel)) (hts (.instantiable RX0 7) (by decide +kernel)) (hts (.initialized RX0) (by decide +kernel)) hK hP hD hS hA rfl (fun j hj => by rcases (show j = 0 ∨ j = 1 ∨ j = 2 ∨ j = 3 ∨ j = 4 ∨ j = 5 ∨ j = 6 by omega) with rfl | rfl | rfl | rfl | rfl | rfl | rfl <;> rfl) (by decide) (by decide) dX4_init_59 (fun o10 H hP hD hS => ?_)
  have hP : va_P D vwCl [(h, .inr (4, [.ref o1, .ref o3, .ref o5, .ref o7, .ref q9, .null, .null, .int 0, .int 0])), (o1, .inr (3, [.ref u2.1])), (u2.1, .inl (cI, 400, .inl u2.2)), (o3, .inr (3, [.ref u4.1])), (u4.1, .inl (cI, 400, .inl u4.2)), (o5, .inr (2, [.ref u6, .int 14])), (u6, .inl (cI, 5600, .inl (fun _ => 0))), (o7, .inr (2, [.ref u8, .int 2])), (u8, .inl (cI, 800, .inl (fun _ => 0))), (q9, .inl (cZ, 2, .inl (fun _ => 0))), (o10, .inr (0, [.null, .int 0, .int 0, .int 0, .int 0, .int 0, .int 0]))] H := hP
  have hD : va_D A [(h, .inr (4, [.ref o1, .ref o3, .ref o5, .ref o7, .ref q9, .null, .null, .int 0, .int 0])), (o1, .inr (3, [.ref u2.1])), (u2.1, .inl (cI, 400, .inl u2.2)), (o3, .inr (3, [.ref u4.1])), (u4.1, .inl (cI, 400, .inl u4.2)), (o5, .inr (2, [.ref u6, .int 14])), (u6, .inl (cI, 5600, .inl (fun _ => 0))), (o7, .inr (2, [.ref u8, .int 2])), (u8, .inl (cI, 800, .inl (fun _ => 0))), (q9, .inl (cZ, 2, .inl (fun _ => 0))), (o10, .inr (0, [.null, .int 0, .int 0, .int 0, .int 0, .int 0, .int 0]))] := hD
  refine W.widen (k := 10) (n := 7215) (by omega) (by omega) ?_
  refine lv_dup hx hb dX4_init_62 rfl ?_
  refine x_joinc (ws1 := fun (u11 : Nat) => [(h, .inr (4, [.ref o1, .ref o3, .ref o5, .ref o7, .ref q9, .null, .null, .int 0, .int 0])), (o1, .inr (3, [.ref u2.1])), (u2.1, .inl (cI, 400, .inl u2.2)), (o3, .inr (3, [.ref u4.1])), (u4.1, .inl (cI, 400, .inl u4.2)), (o5, .inr (2, [.ref u6, .int 14])), (u6, .inl (cI, 5600, .inl (fun _ => 0))), (o7, .inr (2, [.ref u8, .int 2])), (u8, .inl (cI, 800, .inl (fun _ => 0))), (q9, .inl (cZ, 2, .inl (fun _ => 0))), (o10, .inr (0, [.ref u11, .int 0, .int 0, .int 0, .int 0, .int 0, .int 0])), (u11, .inl (cC, 120, .inl (fun _ => 0)))]) (x_runCN (n0 := 0) (As := []) (rest := [.ref o10, .ref h]) C0 (xc_X0_init l D cI cC cZ cL o10 H.size) gX4_init_X0_init_n37 rfl ⟨rfl, rfl⟩ (by decide +kernel) hN.2.2.2.2.2.2.1 (by decide +kernel) rfl (by decide +kernel) rfl ⟨by decide, by decide⟩ ⟨by decide, by decide⟩ hP hD [10] rfl rfl hl.1 rfl (Nat.le_of_ble_eq_true rfl) dX4_init_63) hP hD hS hA [10] [0, 1, 2, 3, 4, 5, 6, 7, 8, 9] [0, 1, 2, 3, 4, 5, 6, 7, 8, 9, 10, 11] rfl rfl rfl (by decide) (fun _ => rfl) rfl (fun u11 H locs _ hP hD hS => ?_)
  refine W.widen (k := 11) (n := 7335) (by omega) (by omega) ?_
  refine va_putF (D := D) (ci := 4) (v := .ref o10) (ty := .object "TakeLog$Day") (C := RX4) (T := TX4) (N := 9) hx hb hts xin_X4_init_X4 tyX4 tyX4_ok nmX4 hown hK hP hD hS 0 rfl rfl 5 (by decide) (hts (.fieldLink RX4 38 "TakeLog" "text" "LTakeLog$Day;") (by decide +kernel)) (fun _ h9 => h9) rfl hin rfl (by decide +kernel) rfl rfl (Nat.le_of_ble_eq_true rfl) dX4_init_66 (fun H locs hP hD hS => ?_)
  have hP : va_P D vwCl [(h, .inr (4, [.ref o1, .ref o3, .ref o5, .ref o7, .ref q9, .ref o10, .null, .int 0, .int 0])), (o1, .inr (3, [.ref u2.1])), (u2.1, .inl (cI, 400, .inl u2.2)), (o3, .inr (3, [.ref u4.1])), (u4.1, .inl (cI, 400, .inl u4.2)), (o5, .inr (2, [.ref u6, .int 14])), (u6, .inl (cI, 5600, .inl (fun _ => 0))), (o7, .inr (2, [.ref u8, .int 2])), (u8, .inl (cI, 800, .inl (fun _ => 0))), (q9, .inl (cZ, 2, .inl (fun _ => 0))), (o10, .inr (0, [.ref u11, .int 0, .int 0, .int 0, .int 0, .int 0, .int 0])), (u11, .inl (cC, 120, .inl (fun _ => 0)))] H := hP
  have hD : va_D A [(h, .inr (4, [.ref o1, .ref o3, .ref o5, .ref o7, .ref q9, .ref o10, .null, .int 0, .int 0])), (o1, .inr (3, [.ref u2.1])), (u2.1, .inl (cI, 400, .inl u2.2)), (o3, .inr (3, [.ref u4.1])), (u4.1, .inl (cI, 400, .inl u4.2)), (o5, .inr (2, [.ref u6, .int 14])), (u6, .inl (cI, 5600, .inl (fun _ => 0))), (o7, .inr (2, [.ref u8, .int 2])), (u8, .inl (cI, 800, .inl (fun _ => 0))), (q9, .inl (cZ, 2, .inl (fun _ => 0))), (o10, .inr (0, [.ref u11, .int 0, .int 0, .int 0, .int 0, .int 0, .int 0])), (u11, .inl (cC, 120, .inl (fun _ => 0)))] := hD
  refine lv_aload_n hx hb dX4_init_69 rfl (lv_at hl 0 rfl) ?_
  refine va_new (ci := 1) (fs := [.null, .int 0]) (C := RX1) (T := TX1) (N := 2) hx hb hts xin_X4_init_X1 tyX1 tyX1_ok hown (hts (.classLink RX4 42 RX1) (by decide +kernel)) (hts (.instantiable RX1 2) (by decide +kernel)) (hts (.initialized RX1) (by decide +kernel)) hK hP hD hS hA rfl (fun j hj => by rcases (show j = 0 ∨ j = 1 by omega) with rfl | rfl <;> rfl) (by decide) (by decide) dX4_init_70 (fun o12 H hP hD hS => ?_)
  have hP : va_P D vwCl [(h, .inr (4, [.ref o1, .ref o3, .ref o5, .ref o7, .ref q9, .ref o10, .null, .int 0, .int 0])), (o1, .inr (3, [.ref u2.1])), (u2.1, .inl (cI, 400, .inl u2.2)), (o3, .inr (3, [.ref u4.1])), (u4.1, .inl (cI, 400, .inl u4.2)), (o5, .inr (2, [.ref u6, .int 14])), (u6, .inl (cI, 5600, .inl (fun _ => 0))), (o7, .inr (2, [.ref u8, .int 2])), (u8, .inl (cI, 800, .inl (fun _ => 0))), (q9, .inl (cZ, 2, .inl (fun _ => 0))), (o10, .inr (0, [.ref u11, .int 0, .int 0, .int 0, .int 0, .int 0, .int 0])), (u11, .inl (cC, 120, .inl (fun _ => 0))), (o12, .inr (1, [.null, .int 0]))] H := hP
  have hD : va_D A [(h, .inr (4, [.ref o1, .ref o3, .ref o5, .ref o7, .ref q9, .ref o10, .null, .int 0, .int 0])), (o1, .inr (3, [.ref u2.1])), (u2.1, .inl (cI, 400, .inl u2.2)), (o3, .inr (3, [.ref u4.1])), (u4.1, .inl (cI, 400, .inl u4.2)), (o5, .inr (2, [.ref u6, .int 14])), (u6, .inl (cI, 5600, .inl (fun _ => 0))), (o7, .inr (2, [.ref u8, .int 2])), (u8, .inl (cI, 800, .inl (fun _ => 0))), (q9, .inl (cZ, 2, .inl (fun _ => 0))), (o10, .inr (0, [.ref u11, .int 0, .int 0, .int 0, .int 0, .int 0, .int 0])), (u11, .inl (cC, 120, .inl (fun _ => 0))), (o12, .inr (1, [.null, .int 0]))] := hD
  refine W.widen (k := 12) (n := 7337) (by omega) (by omega) ?_
  refine lv_dup hx hb dX4_init_73 rfl ?_
  refine x_joinc (ws1 := fun (u13 : Nat) => [(h, .inr (4, [.ref o1, .ref o3, .ref o5, .ref o7, .ref q9, .ref o10, .null, .int 0, .int 0])), (o1, .inr (3, [.ref u2.1])), (u2.1, .inl (cI, 400, .inl u2.2)), (o3, .inr (3, [.ref u4.1])), (u4.1, .inl (cI, 400, .inl u4.2)), (o5, .inr (2, [.ref u6, .int 14])), (u6, .inl (cI, 5600, .inl (fun _ => 0))), (o7, .inr (2, [.ref u8, .int 2])), (u8, .inl (cI, 800, .inl (fun _ => 0))), (q9, .inl (cZ, 2, .inl (fun _ => 0))), (o10, .inr (0, [.ref u11, .int 0, .int 0, .int 0, .int 0, .int 0, .int 0])), (u11, .inl (cC, 120, .inl (fun _ => 0))), (o12, .inr (1, [.ref u13, .int 0])), (u13, .inl (cC, 80, .inl (fun _ => 0)))]) (x_runCN (n0 := 0) (As := []) (rest := [.ref o12, .ref h]) C0 (xc_X1_init l D cI cC cZ cL o12 H.size) gX4_init_X1_init_n44 rfl ⟨rfl, rfl⟩ (by decide +kernel) hN.2.2.2.2.2.2.2 (by decide +kernel) rfl (by decide +kernel) rfl ⟨by decide, by decide⟩ ⟨by decide, by decide⟩ hP hD [12] rfl rfl hl.1 rfl (Nat.le_of_ble_eq_true rfl) dX4_init_74) hP hD hS hA [12] [0, 1, 2, 3, 4, 5, 6, 7, 8, 9, 10, 11] [0, 1, 2, 3, 4, 5, 6, 7, 8, 9, 10, 11, 12, 13] rfl rfl rfl (by decide) (fun _ => rfl) rfl (fun u13 H locs _ hP hD hS => ?_)
  refine W.widen (k := 13) (n := 7417) (by omega) (by omega) ?_
  refine va_putF (D := D) (ci := 4) (v := .ref o12) (ty := .object "TakeLog$Line") (C := RX4) (T := TX4) (N := 9) hx hb hts xin_X4_init_X4 tyX4 tyX4_ok nmX4 hown hK hP hD hS 0 rfl rfl 6 (by decide) (hts (.fieldLink RX4 45 "TakeLog" "shown" "LTakeLog$Line;") (by decide +kernel)) (fun _ h9 => h9) rfl hin rfl (by decide +kernel) rfl rfl (Nat.le_of_ble_eq_true rfl) dX4_init_77 (fun H locs hP hD hS => ?_)
  have hP : va_P D vwCl [(h, .inr (4, [.ref o1, .ref o3, .ref o5, .ref o7, .ref q9, .ref o10, .ref o12, .int 0, .int 0])), (o1, .inr (3, [.ref u2.1])), (u2.1, .inl (cI, 400, .inl u2.2)), (o3, .inr (3, [.ref u4.1])), (u4.1, .inl (cI, 400, .inl u4.2)), (o5, .inr (2, [.ref u6, .int 14])), (u6, .inl (cI, 5600, .inl (fun _ => 0))), (o7, .inr (2, [.ref u8, .int 2])), (u8, .inl (cI, 800, .inl (fun _ => 0))), (q9, .inl (cZ, 2, .inl (fun _ => 0))), (o10, .inr (0, [.ref u11, .int 0, .int 0, .int 0, .int 0, .int 0, .int 0])), (u11, .inl (cC, 120, .inl (fun _ => 0))), (o12, .inr (1, [.ref u13, .int 0])), (u13, .inl (cC, 80, .inl (fun _ => 0)))] H := hP
  have hD : va_D A [(h, .inr (4, [.ref o1, .ref o3, .ref o5, .ref o7, .ref q9, .ref o10, .ref o12, .int 0, .int 0])), (o1, .inr (3, [.ref u2.1])), (u2.1, .inl (cI, 400, .inl u2.2)), (o3, .inr (3, [.ref u4.1])), (u4.1, .inl (cI, 400, .inl u4.2)), (o5, .inr (2, [.ref u6, .int 14])), (u6, .inl (cI, 5600, .inl (fun _ => 0))), (o7, .inr (2, [.ref u8, .int 2])), (u8, .inl (cI, 800, .inl (fun _ => 0))), (q9, .inl (cZ, 2, .inl (fun _ => 0))), (o10, .inr (0, [.ref u11, .int 0, .int 0, .int 0, .int 0, .int 0, .int 0])), (u11, .inl (cC, 120, .inl (fun _ => 0))), (o12, .inr (1, [.ref u13, .int 0])), (u13, .inl (cC, 80, .inl (fun _ => 0)))] := hD
  exact x_retc C0 ((fun k => [o1, u2.1, o3, u4.1, o5, u6, o7, u8, q9, o10, u11, o12, u13].getD k 0), u2.2, u4.2) hk hP hD hS dX4_init_80
set_option maxRecDepth 20000 in
theorem xin_X5_init_X5 : ∀ w ∈ u_ws RX5 TX5 13, w ∈ wsX5_init := by decide +kernel
set_option maxHeartbeats 4000000 in
set_option maxRecDepth 100000 in
theorem xc_X5_init (l : Launch) (D : va_G) (cI cC cZ cL : ClassId) (h : Nat) (sz : Nat) (K : (Nat → Int32) → Prop) (hk : xp_X5_begin (fun _ => 0) K) : XMc l yX5_init wsX5_init ({ frames := 1, cells := 7, slots := 6968, locals := 21 } : Room) D (xTY cI cC cZ cL) [.ref h] [(h, .inr (5, [.int 0, .null, .int 0, .null, .null, .null, .int 0, .null, .null, .null, .int 0, .int 0, .int 0]))] sz (fun (u : (Nat → Nat) × (Nat → Int32)) => K u.2) (fun (u : (Nat → Nat) × (Nat → Int32)) => [(h, .inr (5, [.int 0, .ref (u.1 0), .int 0, .ref (u.1 1), .ref (u.1 2), .ref (u.1 3), .int 0, .ref (u.1 4), .ref (u.1 5), .ref (u.1 6), .int 0, .int 0, .int 0])), (u.1 0, .inl (cI, 120, .inl (fun _ => 0))), (u.1 1, .inl (cI, 377, .inl u.2)), (u.1 2, .inl (cI, 377, .inl (fun _ => 0))), (u.1 3, .inl (cI, 5278, .inl (fun _ => 0))), (u.1 4, .inl (cI, 754, .inl (fun _ => 0))), (u.1 5, .inl (cZ, 2, .inl (fun _ => 0))), (u.1 6, .inl (cI, 60, .inl (fun _ => 0)))]) 7 6968 := by
  refine x_enterC (cc := cX5_init) (maxL := 1) (ret := none) (own := RX5) (by decide) rfl rfl rfl (Nat.le_of_ble_eq_true rfl) (fun p e s m below meth c ls C0 hin hA hP hD hS hl => ?_)
  obtain ⟨hx, hb, hr, hml, hown, hts, hlocks, hK, hN⟩ := id C0
  have hl : lv_has ls 1 [(0, .ref h)] := hl
  generalize hAe : va_A [(h, .inr (5, [.int 0, .null, .int 0, .null, .null, .null, .int 0, .null, .null, .null, .int 0, .int 0, .int 0]))] sz = A at hA hD hS ⊢
  refine lv_aload_n hx hb dX5_init_0 rfl (lv_at hl 0 rfl) ?_
  refine W.objInit hx hb hown (hts (.methodLink RX5 1 objectInit) (by decide +kernel)) (hts (.instanceMethod objectInit) (by decide +kernel)) (hts (.code objectInit ⟨#[0xb1]⟩ 1 none) (by decide +kernel)) rfl (by rw [hml]; exact hl.1) rfl dX5_init_1 (Nat.le_of_ble_eq_true rfl) (Nat.le_of_ble_eq_true rfl) ?_
  refine W.eq (g2 := F0 m 4 ls []) rfl ?_
  refine lv_aload_n hx hb dX5_init_4 rfl (lv_at hl 0 rfl) ?_
  refine lv_bipush (v := 120) hx hb dX5_init_5 (by decide) ?_
  refine x_newI (N' := 120) C0 hA hP hD hS (by decide +kernel) (by decide) rfl (by decide) (by decide) (by decide) dX5_init_7 (fun q1 H hP hD hS => ?_)
  have hP : va_P D vwCl [(h, .inr (5, [.int 0, .null, .int 0, .null, .null, .null, .int 0, .null, .null, .null, .int 0, .int 0, .int 0])), (q1, .inl (cI, 120, .inl (fun _ => 0)))] H := hP
  have hD : va_D A [(h, .inr (5, [.int 0, .null, .int 0, .null, .null, .null, .int 0, .null, .null, .null, .int 0, .int 0, .int 0])), (q1, .inl (cI, 120, .inl (fun _ => 0)))] := hD
  refine W.widen (k := 1) (n := 120) (by omega) (by omega) ?_
  refine va_putF (D := D) (ci := 5) (v := .ref q1) (ty := .array .int) (C := RX5) (T := TX5) (N := 13) hx hb hts xin_X5_init_X5 tyX5 tyX5_ok nmX5 hown hK hP hD hS 0 rfl rfl 1 (by decide) (hts (.fieldLink RX5 7 "TakeLogModel" "text" "[I") (by decide +kernel)) (fun _ h9 => h9) rfl hin rfl (by decide +kernel) rfl rfl (Nat.le_of_ble_eq_true rfl) dX5_init_9 (fun H locs hP hD hS => ?_)
  have hP : va_P D vwCl [(h, .inr (5, [.int 0, .ref q1, .int 0, .null, .null, .null, .int 0, .null, .null, .null, .int 0, .int 0, .int 0])), (q1, .inl (cI, 120, .inl (fun _ => 0)))] H := hP
  have hD : va_D A [(h, .inr (5, [.int 0, .ref q1, .int 0, .null, .null, .null, .int 0, .null, .null, .null, .int 0, .int 0, .int 0])), (q1, .inl (cI, 120, .inl (fun _ => 0)))] := hD
  refine lv_aload_n hx hb dX5_init_12 rfl (lv_at hl 0 rfl) ?_
  refine lv_sipush (v := 377) hx hb dX5_init_13 (by decide) ?_
  refine x_newI (N' := 377) C0 hA hP hD hS (by decide +kernel) (by decide) rfl (by decide) (by decide) (by decide) dX5_init_16 (fun q2 H hP hD hS => ?_)
  have hP : va_P D vwCl [(h, .inr (5, [.int 0, .ref q1, .int 0, .null, .null, .null, .int 0, .null, .null, .null, .int 0, .int 0, .int 0])), (q1, .inl (cI, 120, .inl (fun _ => 0))), (q2, .inl (cI, 377, .inl (fun _ => 0)))] H := hP
  have hD : va_D A [(h, .inr (5, [.int 0, .ref q1, .int 0, .null, .null, .null, .int 0, .null, .null, .null, .int 0, .int 0, .int 0])), (q1, .inl (cI, 120, .inl (fun _ => 0))), (q2, .inl (cI, 377, .inl (fun _ => 0)))] := hD
  refine W.widen (k := 2) (n := 497) (by omega) (by omega) ?_
  refine va_putF (D := D) (ci := 5) (v := .ref q2) (ty := .array .int) (C := RX5) (T := TX5) (N := 13) hx hb hts xin_X5_init_X5 tyX5 tyX5_ok nmX5 hown hK hP hD hS 0 rfl rfl 3 (by decide) (hts (.fieldLink RX5 13 "TakeLogModel" "now" "[I") (by decide +kernel)) (fun _ h9 => h9) rfl hin rfl (by decide +kernel) rfl rfl (Nat.le_of_ble_eq_true rfl) dX5_init_18 (fun H locs hP hD hS => ?_)
  have hP : va_P D vwCl [(h, .inr (5, [.int 0, .ref q1, .int 0, .ref q2, .null, .null, .int 0, .null, .null, .null, .int 0, .int 0, .int 0])), (q1, .inl (cI, 120, .inl (fun _ => 0))), (q2, .inl (cI, 377, .inl (fun _ => 0)))] H := hP
  have hD : va_D A [(h, .inr (5, [.int 0, .ref q1, .int 0, .ref q2, .null, .null, .int 0, .null, .null, .null, .int 0, .int 0, .int 0])), (q1, .inl (cI, 120, .inl (fun _ => 0))), (q2, .inl (cI, 377, .inl (fun _ => 0)))] := hD
  refine lv_aload_n hx hb dX5_init_21 rfl (lv_at hl 0 rfl) ?_
  refine lv_sipush (v := 377) hx hb dX5_init_22 (by decide) ?_
  refine x_newI (N' := 377) C0 hA hP hD hS (by decide +kernel) (by decide) rfl (by decide) (by decide) (by decide) dX5_init_25 (fun q3 H hP hD hS => ?_)
  have hP : va_P D vwCl [(h, .inr (5, [.int 0, .ref q1, .int 0, .ref q2, .null, .null, .int 0, .null, .null, .null, .int 0, .int 0, .int 0])), (q1, .inl (cI, 120, .inl (fun _ => 0))), (q2, .inl (cI, 377, .inl (fun _ => 0))), (q3, .inl (cI, 377, .inl (fun _ => 0)))] H := hP
  have hD : va_D A [(h, .inr (5, [.int 0, .ref q1, .int 0, .ref q2, .null, .null, .int 0, .null, .null, .null, .int 0, .int 0, .int 0])), (q1, .inl (cI, 120, .inl (fun _ => 0))), (q2, .inl (cI, 377, .inl (fun _ => 0))), (q3, .inl (cI, 377, .inl (fun _ => 0)))] := hD
  refine W.widen (k := 3) (n := 874) (by omega) (by omega) ?_
  refine va_putF (D := D) (ci := 5) (v := .ref q3) (ty := .array .int) (C := RX5) (T := TX5) (N := 13) hx hb hts xin_X5_init_X5 tyX5 tyX5_ok nmX5 hown hK hP hD hS 0 rfl rfl 4 (by decide) (hts (.fieldLink RX5 16 "TakeLogModel" "trial" "[I") (by decide +kernel)) (fun _ h9 => h9) rfl hin rfl (by decide +kernel) rfl rfl (Nat.le_of_ble_eq_true rfl) dX5_init_27 (fun H locs hP hD hS => ?_)
  have hP : va_P D vwCl [(h, .inr (5, [.int 0, .ref q1, .int 0, .ref q2, .ref q3, .null, .int 0, .null, .null, .null, .int 0, .int 0, .int 0])), (q1, .inl (cI, 120, .inl (fun _ => 0))), (q2, .inl (cI, 377, .inl (fun _ => 0))), (q3, .inl (cI, 377, .inl (fun _ => 0)))] H := hP
  have hD : va_D A [(h, .inr (5, [.int 0, .ref q1, .int 0, .ref q2, .ref q3, .null, .int 0, .null, .null, .null, .int 0, .int 0, .int 0])), (q1, .inl (cI, 120, .inl (fun _ => 0))), (q2, .inl (cI, 377, .inl (fun _ => 0))), (q3, .inl (cI, 377, .inl (fun _ => 0)))] := hD
  refine lv_aload_n hx hb dX5_init_30 rfl (lv_at hl 0 rfl) ?_
  refine lv_sipush (v := 5278) hx hb dX5_init_31 (by decide) ?_
  refine x_newI (N' := 5278) C0 hA hP hD hS (by decide +kernel) (by decide) rfl (by decide) (by decide) (by decide) dX5_init_34 (fun q4 H hP hD hS => ?_)
  have hP : va_P D vwCl [(h, .inr (5, [.int 0, .ref q1, .int 0, .ref q2, .ref q3, .null, .int 0, .null, .null, .null, .int 0, .int 0, .int 0])), (q1, .inl (cI, 120, .inl (fun _ => 0))), (q2, .inl (cI, 377, .inl (fun _ => 0))), (q3, .inl (cI, 377, .inl (fun _ => 0))), (q4, .inl (cI, 5278, .inl (fun _ => 0)))] H := hP
  have hD : va_D A [(h, .inr (5, [.int 0, .ref q1, .int 0, .ref q2, .ref q3, .null, .int 0, .null, .null, .null, .int 0, .int 0, .int 0])), (q1, .inl (cI, 120, .inl (fun _ => 0))), (q2, .inl (cI, 377, .inl (fun _ => 0))), (q3, .inl (cI, 377, .inl (fun _ => 0))), (q4, .inl (cI, 5278, .inl (fun _ => 0)))] := hD
  refine W.widen (k := 4) (n := 6152) (by omega) (by omega) ?_
  refine va_putF (D := D) (ci := 5) (v := .ref q4) (ty := .array .int) (C := RX5) (T := TX5) (N := 13) hx hb hts xin_X5_init_X5 tyX5 tyX5_ok nmX5 hown hK hP hD hS 0 rfl rfl 5 (by decide) (hts (.fieldLink RX5 19 "TakeLogModel" "diary" "[I") (by decide +kernel)) (fun _ h9 => h9) rfl hin rfl (by decide +kernel) rfl rfl (Nat.le_of_ble_eq_true rfl) dX5_init_36 (fun H locs hP hD hS => ?_)
  have hP : va_P D vwCl [(h, .inr (5, [.int 0, .ref q1, .int 0, .ref q2, .ref q3, .ref q4, .int 0, .null, .null, .null, .int 0, .int 0, .int 0])), (q1, .inl (cI, 120, .inl (fun _ => 0))), (q2, .inl (cI, 377, .inl (fun _ => 0))), (q3, .inl (cI, 377, .inl (fun _ => 0))), (q4, .inl (cI, 5278, .inl (fun _ => 0)))] H := hP
  have hD : va_D A [(h, .inr (5, [.int 0, .ref q1, .int 0, .ref q2, .ref q3, .ref q4, .int 0, .null, .null, .null, .int 0, .int 0, .int 0])), (q1, .inl (cI, 120, .inl (fun _ => 0))), (q2, .inl (cI, 377, .inl (fun _ => 0))), (q3, .inl (cI, 377, .inl (fun _ => 0))), (q4, .inl (cI, 5278, .inl (fun _ => 0)))] := hD
  refine lv_aload_n hx hb dX5_init_39 rfl (lv_at hl 0 rfl) ?_
  refine lv_sipush (v := 754) hx hb dX5_init_40 (by decide) ?_
  refine x_newI (N' := 754) C0 hA hP hD hS (by decide +kernel) (by decide) rfl (by decide) (by decide) (by decide) dX5_init_43 (fun q5 H hP hD hS => ?_)
  have hP : va_P D vwCl [(h, .inr (5, [.int 0, .ref q1, .int 0, .ref q2, .ref q3, .ref q4, .int 0, .null, .null, .null, .int 0, .int 0, .int 0])), (q1, .inl (cI, 120, .inl (fun _ => 0))), (q2, .inl (cI, 377, .inl (fun _ => 0))), (q3, .inl (cI, 377, .inl (fun _ => 0))), (q4, .inl (cI, 5278, .inl (fun _ => 0))), (q5, .inl (cI, 754, .inl (fun _ => 0)))] H := hP
  have hD : va_D A [(h, .inr (5, [.int 0, .ref q1, .int 0, .ref q2, .ref q3, .ref q4, .int 0, .null, .null, .null, .int 0, .int 0, .int 0])), (q1, .inl (cI, 120, .inl (fun _ => 0))), (q2, .inl (cI, 377, .inl (fun _ => 0))), (q3, .inl (cI, 377, .inl (fun _ => 0))), (q4, .inl (cI, 5278, .inl (fun _ => 0))), (q5, .inl (cI, 754, .inl (fun _ => 0)))] := hD
  refine W.widen (k := 5) (n := 6906) (by omega) (by omega) ?_
  refine va_putF (D := D) (ci := 5) (v := .ref q5) (ty := .array .int) (C := RX5) (T := TX5) (N := 13) hx hb hts xin_X5_init_X5 tyX5 tyX5_ok nmX5 hown hK hP hD hS 0 rfl rfl 7 (by decide) (hts (.fieldLink RX5 22 "TakeLogModel" "kept" "[I") (by decide +kernel)) (fun _ h9 => h9) rfl hin rfl (by decide +kernel) rfl rfl (Nat.le_of_ble_eq_true rfl) dX5_init_45 (fun H locs hP hD hS => ?_)
  have hP : va_P D vwCl [(h, .inr (5, [.int 0, .ref q1, .int 0, .ref q2, .ref q3, .ref q4, .int 0, .ref q5, .null, .null, .int 0, .int 0, .int 0])), (q1, .inl (cI, 120, .inl (fun _ => 0))), (q2, .inl (cI, 377, .inl (fun _ => 0))), (q3, .inl (cI, 377, .inl (fun _ => 0))), (q4, .inl (cI, 5278, .inl (fun _ => 0))), (q5, .inl (cI, 754, .inl (fun _ => 0)))] H := hP
  have hD : va_D A [(h, .inr (5, [.int 0, .ref q1, .int 0, .ref q2, .ref q3, .ref q4, .int 0, .ref q5, .null, .null, .int 0, .int 0, .int 0])), (q1, .inl (cI, 120, .inl (fun _ => 0))), (q2, .inl (cI, 377, .inl (fun _ => 0))), (q3, .inl (cI, 377, .inl (fun _ => 0))), (q4, .inl (cI, 5278, .inl (fun _ => 0))), (q5, .inl (cI, 754, .inl (fun _ => 0)))] := hD
  refine lv_aload_n hx hb dX5_init_48 rfl (lv_at hl 0 rfl) ?_
  refine lv_iconst (v := 2) hx hb dX5_init_49 (by decide) ?_
  refine x_newZ (N' := 2) C0 hA hP hD hS (by decide +kernel) (by decide) rfl (by decide) (by decide) (by decide) dX5_init_50 (fun q6 H hP hD hS => ?_)
  have hP : va_P D vwCl [(h, .inr (5, [.int 0, .ref q1, .int 0, .ref q2, .ref q3, .ref q4, .int 0, .ref q5, .null, .null, .int 0, .int 0, .int 0])), (q1, .inl (cI, 120, .inl (fun _ => 0))), (q2, .inl (cI, 377, .inl (fun _ => 0))), (q3, .inl (cI, 377, .inl (fun _ => 0))), (q4, .inl (cI, 5278, .inl (fun _ => 0))), (q5, .inl (cI, 754, .inl (fun _ => 0))), (q6, .inl (cZ, 2, .inl (fun _ => 0)))] H := hP
  have hD : va_D A [(h, .inr (5, [.int 0, .ref q1, .int 0, .ref q2, .ref q3, .ref q4, .int 0, .ref q5, .null, .null, .int 0, .int 0, .int 0])), (q1, .inl (cI, 120, .inl (fun _ => 0))), (q2, .inl (cI, 377, .inl (fun _ => 0))), (q3, .inl (cI, 377, .inl (fun _ => 0))), (q4, .inl (cI, 5278, .inl (fun _ => 0))), (q5, .inl (cI, 754, .inl (fun _ => 0))), (q6, .inl (cZ, 2, .inl (fun _ => 0)))] := hD
  refine W.widen (k := 6) (n := 6908) (by omega) (by omega) ?_
  refine va_putF (D := D) (ci := 5) (v := .ref q6) (ty := .array .boolean) (C := RX5) (T := TX5) (N := 13) hx hb hts xin_X5_init_X5 tyX5 tyX5_ok nmX5 hown hK hP hD hS 0 rfl rfl 8 (by decide) (hts (.fieldLink RX5 25 "TakeLogModel" "isKept" "[Z") (by decide +kernel)) (fun _ h9 => h9) rfl hin rfl (by decide +kernel) rfl rfl (Nat.le_of_ble_eq_true rfl) dX5_init_52 (fun H locs hP hD hS => ?_)
  have hP : va_P D vwCl [(h, .inr (5, [.int 0, .ref q1, .int 0, .ref q2, .ref q3, .ref q4, .int 0, .ref q5, .ref q6, .null, .int 0, .int 0, .int 0])), (q1, .inl (cI, 120, .inl (fun _ => 0))), (q2, .inl (cI, 377, .inl (fun _ => 0))), (q3, .inl (cI, 377, .inl (fun _ => 0))), (q4, .inl (cI, 5278, .inl (fun _ => 0))), (q5, .inl (cI, 754, .inl (fun _ => 0))), (q6, .inl (cZ, 2, .inl (fun _ => 0)))] H := hP
  have hD : va_D A [(h, .inr (5, [.int 0, .ref q1, .int 0, .ref q2, .ref q3, .ref q4, .int 0, .ref q5, .ref q6, .null, .int 0, .int 0, .int 0])), (q1, .inl (cI, 120, .inl (fun _ => 0))), (q2, .inl (cI, 377, .inl (fun _ => 0))), (q3, .inl (cI, 377, .inl (fun _ => 0))), (q4, .inl (cI, 5278, .inl (fun _ => 0))), (q5, .inl (cI, 754, .inl (fun _ => 0))), (q6, .inl (cZ, 2, .inl (fun _ => 0)))] := hD
  refine lv_aload_n hx hb dX5_init_55 rfl (lv_at hl 0 rfl) ?_
  refine lv_bipush (v := 60) hx hb dX5_init_56 (by decide) ?_
  refine x_newI (N' := 60) C0 hA hP hD hS (by decide +kernel) (by decide) rfl (by decide) (by decide) (by decide) dX5_init_58 (fun q7 H hP hD hS => ?_)
  have hP : va_P D vwCl [(h, .inr (5, [.int 0, .ref q1, .int 0, .ref q2, .ref q3, .ref q4, .int 0, .ref q5, .ref q6, .null, .int 0, .int 0, .int 0])), (q1, .inl (cI, 120, .inl (fun _ => 0))), (q2, .inl (cI, 377, .inl (fun _ => 0))), (q3, .inl (cI, 377, .inl (fun _ => 0))), (q4, .inl (cI, 5278, .inl (fun _ => 0))), (q5, .inl (cI, 754, .inl (fun _ => 0))), (q6, .inl (cZ, 2, .inl (fun _ => 0))), (q7, .inl (cI, 60, .inl (fun _ => 0)))] H := hP
  have hD : va_D A [(h, .inr (5, [.int 0, .ref q1, .int 0, .ref q2, .ref q3, .ref q4, .int 0, .ref q5, .ref q6, .null, .int 0, .int 0, .int 0])), (q1, .inl (cI, 120, .inl (fun _ => 0))), (q2, .inl (cI, 377, .inl (fun _ => 0))), (q3, .inl (cI, 377, .inl (fun _ => 0))), (q4, .inl (cI, 5278, .inl (fun _ => 0))), (q5, .inl (cI, 754, .inl (fun _ => 0))), (q6, .inl (cZ, 2, .inl (fun _ => 0))), (q7, .inl (cI, 60, .inl (fun _ => 0)))] := hD
  refine W.widen (k := 7) (n := 6968) (by omega) (by omega) ?_
  refine va_putF (D := D) (ci := 5) (v := .ref q7) (ty := .array .int) (C := RX5) (T := TX5) (N := 13) hx hb hts xin_X5_init_X5 tyX5 tyX5_ok nmX5 hown hK hP hD hS 0 rfl rfl 9 (by decide) (hts (.fieldLink RX5 29 "TakeLogModel" "line" "[I") (by decide +kernel)) (fun _ h9 => h9) rfl hin rfl (by decide +kernel) rfl rfl (Nat.le_of_ble_eq_true rfl) dX5_init_60 (fun H locs hP hD hS => ?_)
  have hP : va_P D vwCl [(h, .inr (5, [.int 0, .ref q1, .int 0, .ref q2, .ref q3, .ref q4, .int 0, .ref q5, .ref q6, .ref q7, .int 0, .int 0, .int 0])), (q1, .inl (cI, 120, .inl (fun _ => 0))), (q2, .inl (cI, 377, .inl (fun _ => 0))), (q3, .inl (cI, 377, .inl (fun _ => 0))), (q4, .inl (cI, 5278, .inl (fun _ => 0))), (q5, .inl (cI, 754, .inl (fun _ => 0))), (q6, .inl (cZ, 2, .inl (fun _ => 0))), (q7, .inl (cI, 60, .inl (fun _ => 0)))] H := hP
  have hD : va_D A [(h, .inr (5, [.int 0, .ref q1, .int 0, .ref q2, .ref q3, .ref q4, .int 0, .ref q5, .ref q6, .ref q7, .int 0, .int 0, .int 0])), (q1, .inl (cI, 120, .inl (fun _ => 0))), (q2, .inl (cI, 377, .inl (fun _ => 0))), (q3, .inl (cI, 377, .inl (fun _ => 0))), (q4, .inl (cI, 5278, .inl (fun _ => 0))), (q5, .inl (cI, 754, .inl (fun _ => 0))), (q6, .inl (cZ, 2, .inl (fun _ => 0))), (q7, .inl (cI, 60, .inl (fun _ => 0)))] := hD
  refine lv_aload_n hx hb dX5_init_63 rfl (lv_at hl 0 rfl) ?_
  refine va_get (D := D) (ci := 5) (v := .ref q2) (C := RX5) (T := TX5) (N := 13) hx hb hts xin_X5_init_X5 hown hK hP 0 rfl rfl 3 (by decide) (hts (.fieldLink RX5 13 "TakeLogModel" "now" "[I") (by decide +kernel)) (fun _ h9 => h9) rfl dX5_init_64 ?_
  refine x_joinv (ws1 := fun (u8 : Nat → Int32) => [(h, .inr (5, [.int 0, .ref q1, .int 0, .ref q2, .ref q3, .ref q4, .int 0, .ref q5, .ref q6, .ref q7, .int 0, .int 0, .int 0])), (q1, .inl (cI, 120, .inl (fun _ => 0))), (q2, .inl (cI, 377, .inl u8)), (q3, .inl (cI, 377, .inl (fun _ => 0))), (q4, .inl (cI, 5278, .inl (fun _ => 0))), (q5, .inl (cI, 754, .inl (fun _ => 0))), (q6, .inl (cZ, 2, .inl (fun _ => 0))), (q7, .inl (cI, 60, .inl (fun _ => 0)))]) (x_runO (n0 := 1) (As := [.ref q2]) (rest := []) C0 (xc_X5_begin l D cI cC cZ cL q2 H.size (fun _ => 0) _ hk) gX5_init_X5_begin rfl ⟨rfl, rfl⟩ (by decide +kernel) rfl ⟨by decide, by decide⟩ ⟨by decide, by decide⟩ hP hD [2] rfl rfl hl.1 rfl (Nat.le_of_ble_eq_true rfl) dX5_init_67) hP hD hS hA [2] [0, 1, 3, 4, 5, 6, 7] [0, 1, 7, 2, 3, 4, 5, 6] rfl rfl rfl (by decide) (fun _ => rfl) rfl (fun u8 H locs hk hP hD hS => ?_)
  exact x_retc C0 ((fun k => [q1, q2, q3, q4, q5, q6, q7].getD k 0), u8) hk hP hD hS dX5_init_70
