/-! ===== methods that throw: what they take as given beside the tables ===== -/
def xStrs : List (Nat × String) := [(51, "the character code is not 0 to 255"), (62, "the text is full"), (76, "the text is not a day"), (87, "what is not 0 to 16"), (99, "there is no such take"), (106, "the index is negative"), (115, "what is not 0 to 3"), (124, "there is no such setup"), (135, "there is no such slate"), (149, "the seconds are not 1 to 120"), (154, "there are 24 takes, or the camera roll is used up"), (179, "the seconds are not -99 to 99"), (187, "there is no such setting or value"), (196, "no state is remembered"), (234, "the seconds are not 1 to 120, or the takes not 1 to 99"), (251, "what is not 0 to 4"), (256, "the commands are not 1 to 3"), (262, "the script is negative or too long"), (269, "the turns are not 1 to 80"), (281, "there is no such save slot"), (286, "nothing has been saved in this slot")]
def xLow : Nat → Int32 := fun j => if j = 0 then 60 else if j = 1 then 60 else 0
def xHigh : Nat → Int32 := fun j => if j = 0 then 999 else if j = 1 then 3600 else if j = 2 then 60 else 1
abbrev xIA : String := "java/lang/IllegalArgumentException"
abbrev xIS : String := "java/lang/IllegalStateException"
abbrev xIO : String := "java/lang/IndexOutOfBoundsException"
abbrev xNm : List String := ["java/lang/RuntimeException", "java/lang/Exception"]
def xDs : List Cond := [.declares (Bundle.initS "java/lang/RuntimeException"), .declares (Bundle.initS "java/lang/Exception"), .declares (Bundle.initS "java/lang/Throwable"), .castable xIA xIA, .castable xIS xIS, .castable xIO xIO]
theorem xDs_tabs : ∀ w ∈ xDs, w.onTables = true := by decide +kernel
theorem xDs_warm {s U : State} (hW : s.WarmedH U.vm) (h : ∀ w ∈ xDs, va_Nw w s) : ∀ w ∈ xDs, va_Nw w U := by
  intro w hw
  have h1 := h w hw
  simp only [xDs, List.mem_cons, List.not_mem_nil, or_false] at hw
  rcases hw with rfl | rfl | rfl | rfl | rfl | rfl
  · exact va_Nw.warmD hW h1
  · exact va_Nw.warmD hW h1
  · exact va_Nw.warmD hW h1
  · exact va_Nw.warmC hW h1
  · exact va_Nw.warmC hW h1
  · exact va_Nw.warmC hW h1
def xT (f : Nat → Nat) (tL tH : Nat) (A : Nat → Prop) (U : State) (H : Heap) : Prop :=
  vx_Zq Bundle.tN "UNASSIGNED_STACK" Bundle.steD A U H ∧ vx_Zq Bundle.tN "SUPPRESSED_SENTINEL" Bundle.listD A U H ∧
  va_Z "TakeLog" "LOWEST_SETTING" "[I" (.ref tL) A U H ∧ va_Z "TakeLog" "HIGHEST_SETTING" "[I" (.ref tH) A U H ∧
  va_T .int tL 4 (fun j => .int (xLow j)) A U H ∧ va_T .int tH 4 (fun j => .int (xHigh j)) A U H ∧
  (∀ q ∈ xStrs, vk_R RX4 q.1 q.2 (f q.1) U) ∧ (∀ w ∈ xDs, va_Nw w U)
theorem xT.call {f : Nat → Nat} {tL tH : Nat} {A B : Nat → Prop} {s U : State} {H : Heap} {locs : List Loc} (h : xT f tL tH A s s.heap) (hS : va_S A s.heap H locs) (hU : U.heap = H) (hW : s.WarmedH U.vm) (hB : ∀ q, B q → A q) : xT f tL tH B U U.heap := by
  obtain ⟨h1, h2, h3, h4, h5, h6, h7, h8⟩ := h
  subst hU
  exact ⟨((h1.kept hS.2.1).moved hW.alike).narrow hB, ((h2.kept hS.2.1).moved hW.alike).narrow hB, ((h3.kept hS.2.1).moved hW.alike).narrow hB, ((h4.kept hS.2.1).moved hW.alike).narrow hB, ((h5.kept hS.2.1).moved hW.alike).narrow hB, ((h6.kept hS.2.1).moved hW.alike).narrow hB, fun q hq => (h7 q hq).warm hW, xDs_warm hW h8⟩
theorem xT.same {f : Nat → Nat} {tL tH : Nat} {A : Nat → Prop} {u U : State} (e : U.vm = u.vm) (eh : U.heap = u.heap) (h : xT f tL tH A u u.heap) : xT f tL tH A U U.heap := by
  obtain ⟨h1, h2, h3, h4, h5, h6, h7, h8⟩ := h
  rw [eh]
  have ha : u.vm.Alike U.vm := by rw [e]; exact Vm.Alike.refl _
  exact ⟨h1.moved ha, h2.moved ha, h3.moved ha, h4.moved ha, h5.moved ha, h6.moved ha, fun q hq => (h7 q hq).same e, fun w hw => va_Nw.same (xDs_tabs w hw) e.symm (h8 w hw)⟩
abbrev xBT (D : va_G) (TY : List (ClassId × FieldType)) (f : Nat → Nat) (tL tH : Nat) (sz : Nat) (ws : va_W) (U : State) : Prop := xB D TY sz ws U ∧ xT f tL tH (va_A ws sz) U U.heap
theorem xBT_blind {D : va_G} {TY : List (ClassId × FieldType)} {f : Nat → Nat} {tL tH : Nat} {sz : Nat} {ws : va_W} {av : List Value} : FrameBlind (va_Pc av (xBT D TY f tL tH sz ws)) := fun a U g mk q => by
  obtain ⟨q0, q1, q2⟩ := q
  exact ⟨q0, (xB_blind (av := av) a U g mk ⟨q0, q1⟩).2, xT.same (u := U) rfl rfl q2⟩
/-- a method that answers an int, or throws; it may make the one cell that it throws -/
abbrev XMx {S : Type} (l : Launch) (y : MethodName) (ws : List Cond) (rm : Room) (D : va_G) (TY : List (ClassId × FieldType)) (f : Nat → Nat) (tL tH : Nat) (av : List Value) (wc : va_W) (sz : Nat) (post : Int32 → S → Prop) (px : String → S → Prop) (wf : S → va_W) : Prop :=
  vx_Met l y ws rm (va_Pc av (xBT D TY f tL tH sz wc)) (va_Qi post (fun u t => xE D (va_A wc sz) (wf u) t) (va_A wc sz)) (vx_X (fun (_ : S) => True) (fun E u t => px E u ∧ xE D (va_A wc sz) (wf u) t) (va_A wc sz)) 1 6 (va_A wc sz)
abbrev XMt {S : Type} (l : Launch) (y : MethodName) (ws : List Cond) (rm : Room) (D : va_G) (TY : List (ClassId × FieldType)) (f : Nat → Nat) (tL tH : Nat) (av : List Value) (wc : va_W) (sz : Nat) (post : Int32 → S → Prop) (wf : S → va_W) : Prop :=
  Met l y ws rm (va_Pc av (xBT D TY f tL tH sz wc)) (va_Qi post (fun u t => xE D (va_A wc sz) (wf u) t) (va_A wc sz)) 0 0 (va_A wc sz)
theorem x_enterX {l : Launch} {y : MethodName} {ws ws' : List Cond} {rm : Room} {av : List Value} {wc : va_W} {sz : Nat} {Qc : Array Value → State → Outcome → State → Prop} {XC : String → State → State → Prop} {cc : ByteArray} {maxL : Nat} {ret : Option FieldType} {own : String} {D : va_G} {TY : List (ClassId × FieldType)} {f : Nat → Nat} {tL tH : Nat}
    (hy : plainName y.cls = true) (hw : ws = Cond.code y cc maxL ret :: ws') (ho : y.cls = own) (hn : (lg_sl av).length ≤ maxL)
    (body : ∀ (p : Program) (e : Env) (s : State) (m : MethodId) (below : List Frame) (meth : Method) (c : Code) (ls : Array Slot), xC p s m av.toArray meth c cc maxL ret ws own D TY → xT f tL tH (va_A wc sz) s s.heap → (∀ x ∈ c.exceptionTable.toList, False) → (∀ q : Nat, s.heap.size ≤ q → va_A wc sz q) → va_P D vwCl wc s.heap → va_D (va_A wc sz) wc → va_S (va_A wc sz) s.heap s.heap [] → lv_has ls maxL (lv_args 0 av) →
      W p l e rm s m av.toArray below meth c s.heap [] 0 0 (vx_MQ below Qc XC av.toArray s 1 6 (va_A wc sz)) (F0 m 0 ls [])) :
    vx_Met l y ws rm (va_Pc av (xBT D TY f tL tH sz wc)) Qc XC 1 6 (va_A wc sz) := by
  refine vx_ofW (cc := cc) (maxL := maxL) (ret := ret) hy hw ?_
  intro p e s m args' below meth c s₁ B hml hne hv
  obtain ⟨rfl, ⟨hsz, hP, hK, hN, hD0⟩, hT⟩ := hv
  have hts := atoms_spec (ws := ws) B.pre
  have hown : s.vm.findClass own = some m.cls := ho ▸ findClass_of_methodNamed B.named
  have hl := lv_entry av (n := maxL) hn
  rw [lg_entry_eq]
  exact body p e s m below meth c _ ⟨B.exec, B.bytes, B.returns, hml, hown, hts, B.notSynchronized, hK, hN⟩ hT hne (fun q h => Or.inr (hsz ▸ h)) hP hD0.self va_S.rf hl
theorem x_enterT {l : Launch} {y : MethodName} {ws ws' : List Cond} {rm : Room} {av : List Value} {wc : va_W} {sz : Nat} {Qc : Array Value → State → Outcome → State → Prop} {cc : ByteArray} {maxL : Nat} {ret : Option FieldType} {own : String} {D : va_G} {TY : List (ClassId × FieldType)} {f : Nat → Nat} {tL tH : Nat}
    (hy : plainName y.cls = true) (hw : ws = Cond.code y cc maxL ret :: ws') (ho : y.cls = own) (hn : (lg_sl av).length ≤ maxL)
    (body : ∀ (p : Program) (e : Env) (s : State) (m : MethodId) (below : List Frame) (meth : Method) (c : Code) (ls : Array Slot), xC p s m av.toArray meth c cc maxL ret ws own D TY → xT f tL tH (va_A wc sz) s s.heap → (∀ q : Nat, s.heap.size ≤ q → va_A wc sz q) → va_P D vwCl wc s.heap → va_D (va_A wc sz) wc → va_S (va_A wc sz) s.heap s.heap [] → lv_has ls maxL (lv_args 0 av) →
      W p l e rm s m av.toArray below meth c s.heap [] 0 0 (MQ below Qc av.toArray s 0 0 (va_A wc sz)) (F0 m 0 ls [])) :
    Met l y ws rm (va_Pc av (xBT D TY f tL tH sz wc)) Qc 0 0 (va_A wc sz) := by
  refine Met.ofW (cc := cc) (maxL := maxL) (ret := ret) hy hw ?_
  intro p e s m args' below meth c s₁ B hml hv
  obtain ⟨rfl, ⟨hsz, hP, hK, hN, hD0⟩, hT⟩ := hv
  have hts := atoms_spec (ws := ws) B.pre
  have hown : s.vm.findClass own = some m.cls := ho ▸ findClass_of_methodNamed B.named
  have hl := lv_entry av (n := maxL) hn
  rw [lg_entry_eq]
  exact body p e s m below meth c _ ⟨B.exec, B.bytes, B.returns, hml, hown, hts, B.notSynchronized, hK, hN⟩ hT (fun q h => Or.inr (hsz ▸ h)) hP hD0.self va_S.rf hl
section XTHR
variable {p : Program} {l : Launch} {e : Env} {R : Room} {s : State} {m : MethodId} {args : Array Value} {below : List Frame} {meth : Method} {c : Code} {H : Heap} {locs : List Loc} {cells slots : Nat} {A : Nat → Prop} {D : va_G} {TY : List (ClassId × FieldType)} {cc : ByteArray} {nL pc : Nat} {ret : Option FieldType} {Ts : List Cond} {own : String} {ls : Array Slot} {rest st0 : List Value} {ws wc : va_W} {f : Nat → Nat} {tL tH : Nat}
theorem x_retiX {S : Type} {post : Int32 → S → Prop} {XC : String → State → State → Prop} {wf : S → va_W} {v : Int32} (C0 : xC p s m args meth c cc nL (some .int) Ts own D TY) (u : S) (hk : post v u) (hP : va_P D vwCl (wf u) H) (hD : va_D A (wf u)) (hS : va_S A s.heap H locs) (d : decode cc pc = .ok (.ireturn, 1)) :
    W p l e R s m args below meth c H locs 0 0 (vx_MQ below (va_Qi post (fun u t => xE D A (wf u) t) A) XC args s 1 6 A) (F0 m pc ls [.int v]) :=
  W.widen (Nat.zero_le 1) (Nat.zero_le 6) (vx_ret (x_reti C0 u hk hP hD hS d))
/-- where a throw has come: the world as it stood, one cell more -/
theorem x_thrown {S : Type} {KX : String → S → Prop} {wf : S → va_W} {cls : String} (u : S) (hk : KX cls u) (hP : va_P D vwCl (wf u) H) (hD : va_D A (wf u)) (hS : va_S A s.heap H locs) (t : State) (h1 : H.size ≤ t.heap.size) (h2 : ∀ q : Nat, q < H.size → t.heap[q]? = H[q]?) : vx_X (fun (_ : S) => True) (fun E u t => KX E u ∧ xE D A (wf u) t) A cls s t :=
  ⟨u, trivial, ⟨hk, hP.kept (fun k q hq => h2 q.1 (vx_lt hP hq)), hD⟩, Nat.le_trans hS.1 h1, fun q hq hA => (h2 q (Nat.lt_of_lt_of_le hq hS.1)).trans (hS.2.1 q hq hA)⟩
theorem x_thr {S : Type} {KX : String → S → Prop} {wf : S → va_W} {Qc : Array Value → State → Outcome → State → Prop} {cls text : String} {ik is ic : Nat} (C0 : xC p s m args meth c cc nL ret Ts RX4 D TY) (T0 : xT f tL tH A s s.heap) (hl0 : l.stackTraces = false) (hne : ∀ x ∈ c.exceptionTable.toList, False) (u : S) (hk : KX cls u) (hP : va_P D vwCl (wf u) H) (hD : va_D A (wf u)) (hS : va_S A s.heap H locs) (hsize : ls.size = nL)
    (hcls : Bundle.fit cls = true) (hw1 : Cond.classLink RX4 ik cls ∈ Ts) (hw2 : Cond.initialized cls ∈ Ts) (hw3 : ∀ w ∈ (vx_atS RX4 ic cls xNm).filter goodWord, w ∈ Ts) (hw4 : ∀ w ∈ (vx_atS RX4 ic cls xNm).filter (fun w => !goodWord w), w ∈ xDs) (hot : ∀ w ∈ Cond.classLink RX4 ik cls :: Cond.initialized cls :: vx_atS RX4 ic cls xNm, vx_ot w = true) (hstr : (is, text) ∈ xStrs)
    (hR1 : 5 < R.frames) (hR2 : (rest.map fun v => v.category).sum + 82 ≤ R.locals) (hR3 : 1 ≤ R.cells) (hR4 : 6 ≤ R.slots)
    (d0 : decode cc pc = .ok (.new ik, 3)) (d3 : decode cc (pc + 3) = .ok (.dup, 1)) (d4 : decode cc (pc + 4) = .ok (.ldc is, 2)) (d6 : decode cc (pc + 6) = .ok (.invokespecial ic, 3)) (d9 : decode cc (pc + 9) = .ok (.athrow, 1)) :
    W p l e R s m args below meth c H locs 0 0 (vx_MQ below Qc (vx_X (fun (_ : S) => True) (fun E u t => KX E u ∧ xE D A (wf u) t) A) args s 1 6 A) (F0 m pc ls rest) :=
  vx_throwS (A := A) (names := xNm) (sa := f is) C0.1 C0.2.1 hl0 C0.2.2.2.2.1 hcls (by decide +kernel) (C0.2.2.2.2.2.1 _ hw1) (C0.2.2.2.2.2.1 _ hw2) (T0.2.2.2.2.2.2.1 _ hstr) (vx_hat (fun w h => C0.2.2.2.2.2.1 w (hw3 w h)) hw4 (fun w h => va_Nw.use (xDs_tabs w h) (T0.2.2.2.2.2.2.2 w h))) hot T0.1 T0.2.1 hS (hsize.trans C0.2.2.2.1.symm) d0 d3 d4 d6 d9 (fun x hx => (hne x hx).elim) hR1 hR2 (by simpa using hR3) (by simpa using hR4) C0.2.2.2.2.2.2.1 (fun t _ h1 h2 => x_thrown u hk hP hD hS t h1 h2) hS.2.2 (Nat.le_refl _) (Nat.le_refl _)
theorem x_thrW {S : Type} {KX : String → S → Prop} {wf : S → va_W} {Qc : Array Value → State → Outcome → State → Prop} {cls text : String} {ik is ic : Nat} (C0 : xC p s m args meth c cc nL ret Ts RX4 D TY) (T0 : xT f tL tH A s s.heap) (hl0 : l.stackTraces = false) (hne : ∀ x ∈ c.exceptionTable.toList, False) (u : S) (hk : KX cls u) (hP : va_P D vwCl (wf u) H) (hD : va_D A (wf u)) (hS : va_S A s.heap H locs) (hsize : ls.size = nL)
    (hcls : Bundle.fit cls = true) (hw1 : Cond.classLink RX4 ik cls ∈ Ts) (hw2 : Cond.initialized cls ∈ Ts) (hw3 : ∀ w ∈ (vx_atS RX4 ic cls xNm).filter goodWord, w ∈ Ts) (hw4 : ∀ w ∈ (vx_atS RX4 ic cls xNm).filter (fun w => !goodWord w), w ∈ xDs) (hot : ∀ w ∈ Cond.classLink RX4 ik cls :: Cond.initialized cls :: vx_atS RX4 ic cls xNm, vx_ot w = true) (hstr : (is, text) ∈ xStrs)
    (hR1 : 5 < R.frames) (hR2 : (rest.map fun v => v.category).sum + 82 ≤ R.locals) (hR3 : 1 ≤ R.cells) (hR4 : 6 ≤ R.slots)
    (d0 : decode cc pc = .ok (.new ik, 3)) (d3 : decode cc (pc + 3) = .ok (.dup, 1)) (d4 : decode cc (pc + 4) = .ok (.ldc_w is, 3)) (d7 : decode cc (pc + 7) = .ok (.invokespecial ic, 3)) (d10 : decode cc (pc + 10) = .ok (.athrow, 1)) :
    W p l e R s m args below meth c H locs 0 0 (vx_MQ below Qc (vx_X (fun (_ : S) => True) (fun E u t => KX E u ∧ xE D A (wf u) t) A) args s 1 6 A) (F0 m pc ls rest) :=
  vx_throwSW (A := A) (names := xNm) (sa := f is) C0.1 C0.2.1 hl0 C0.2.2.2.2.1 hcls (by decide +kernel) (C0.2.2.2.2.2.1 _ hw1) (C0.2.2.2.2.2.1 _ hw2) (T0.2.2.2.2.2.2.1 _ hstr) (vx_hat (fun w h => C0.2.2.2.2.2.1 w (hw3 w h)) hw4 (fun w h => va_Nw.use (xDs_tabs w h) (T0.2.2.2.2.2.2.2 w h))) hot T0.1 T0.2.1 hS (hsize.trans C0.2.2.2.1.symm) d0 d3 d4 d7 d10 (fun x hx => (hne x hx).elim) hR1 hR2 (by simpa using hR3) (by simpa using hR4) C0.2.2.2.2.2.2.1 (fun t _ h1 h2 => x_thrown u hk hP hD hS t h1 h2) hS.2.2 (Nat.le_refl _) (Nat.le_refl _)
variable {y : MethodName} {wsY wsY' : List Cond} {rmY : Room} {by0 : ByteArray} {mL idx n0 : Nat} {rt : Option FieldType} {Qc : Array Value → State → Outcome → State → Prop} {As av : List Value} {free : Addr → Prop}
theorem x_preT (C0 : xC p s m args meth c cc nL ret Ts own D TY) (T0 : xT f tL tH A s s.heap) (hA : ∀ q : Nat, s.heap.size ≤ q → A q) (hP : va_P D vwCl ws H) (hD : va_D A ws) (hS : va_S A s.heap H locs) (isC : List Nat) (hC : isC.map (fun i => ws[i]?) = wc.map some) (hnC : va_nd isC = true) : PreS s H (va_Pc av (xBT D TY f tL tH H.size wc)) av :=
  ⟨xBT_blind, fun U hU hW => ⟨rfl, ((x_pre (av := av) C0 hP hD isC hC hnC).2 U hU hW).2, T0.call hS hU hW (va_free hD hS hA isC hC)⟩⟩
theorem x_runST (C0 : xC p s m args meth c cc nL ret Ts own D TY) (T0 : xT f tL tH A s s.heap) (hM : Met l y wsY rmY (va_Pc As (xBT D TY f tL tH H.size wc)) Qc 0 0 free) (hG : GoodIn Ts (va_wsS own idx y wsY)) (hw : wsY = Cond.code y by0 mL rt :: wsY') (hz : rmY.cells = 0 ∧ rmY.slots = 0)
    (hd : y.cls ≠ "java/lang/invoke/MethodHandle" ∧ y.cls ≠ "java/lang/invoke/VarHandle" ∧ (parseMethodDescriptor y.desc).map (fun d => d.parameters.length) = some n0) (hlen : As.length = n0) (hR : rmY.frames + 1 ≤ R.frames ∧ 8 + (mL + 11) + rmY.locals ≤ R.locals) (hcs : cells ≤ R.cells ∧ slots ≤ R.slots)
    (hA : ∀ q : Nat, s.heap.size ≤ q → A q) (hP : va_P D vwCl ws H) (hD : va_D A ws) (hS : va_S A s.heap H locs) (isC : List Nat) (hC : isC.map (fun i => ws[i]?) = wc.map some) (hnC : va_nd isC = true)
    (hsize : ls.size = nL) (hst : st0 = As.reverse ++ rest) (hW : (rest.map fun v => v.category).sum ≤ 8) (hdg : decode cc pc = .ok (.invokestatic idx, 3)) :
    va_Run p l e R s m args below meth c H locs cells slots 0 0 (F0 m pc ls st0) rest (Qc As.toArray) free :=
  va_runS ⟨C0.1, C0.2.1, C0.2.2.2.1, C0.2.2.2.2.1, C0.2.2.2.2.2.1⟩ hM (va_cwS n0 C0.2.2.2.2.2.1 hG hw hz.1 hz.2 hd hR) (x_preT C0 T0 hA hP hD hS isC hC hnC) rfl hlen hsize hst (lv_room hW) hdg hcs
end XTHR
theorem x_ngIA : ∀ w ∈ (vx_atS RX4 53 xIA xNm).filter (fun w => !goodWord w), w ∈ xDs := by decide +kernel
theorem x_ngIS : ∀ w ∈ (vx_atS RX4 64 xIS xNm).filter (fun w => !goodWord w), w ∈ xDs := by decide +kernel
theorem x_ngIO : ∀ w ∈ (vx_atS RX4 101 xIO xNm).filter (fun w => !goodWord w), w ∈ xDs := by decide +kernel
theorem x_otIA : ∀ w ∈ Cond.classLink RX4 49 xIA :: Cond.initialized xIA :: vx_atS RX4 53 xIA xNm, vx_ot w = true := by decide +kernel
theorem x_otIS : ∀ w ∈ Cond.classLink RX4 60 xIS :: Cond.initialized xIS :: vx_atS RX4 64 xIS xNm, vx_ot w = true := by decide +kernel
theorem x_otIO : ∀ w ∈ Cond.classLink RX4 97 xIO :: Cond.initialized xIO :: vx_atS RX4 101 xIO xNm, vx_ot w = true := by decide +kernel
theorem x_notrace (l : Launch) (h : l.flags = flags0) : l.stackTraces = false := by
  simp [Launch.stackTraces, h, flags0]
