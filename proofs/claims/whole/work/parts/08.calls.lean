/-! Contracts over plain memory: from μ with these arguments the method returns, P tells of the answer and of the memory then. -/
def wsM (y : MethodName) (bytes : ByteArray) (nL : Nat) (ret : Option FieldType) : List Cond := Cond.code y bytes nL ret :: lgood
def PcE (E : EvT) (As : List Value) (μ : MemT) (sz : Nat) : Array Value → State → Prop := va_Pc As (fun U => U.heap.size = sz ∧ eW E μ U)
def wdP (E : EvT) (μ : MemT) (t : State) : Prop := va_P E.1 vwCl (eWl E μ) t.heap
def MCi (l : Launch) (E : EvT) (y : MethodName) (bytes : ByteArray) (nL : Nat) (ret : Option FieldType) (rm : Room) (As : List Value) (μ : MemT) (P : Int32 → MemT → Prop) : Prop := ∀ sz, Met l y (wsM y bytes nL ret) rm (PcE E As μ sz) (va_Qi P (wdP E) (eA E sz)) 0 0 (eA E sz)
def MCl (l : Launch) (E : EvT) (y : MethodName) (bytes : ByteArray) (nL : Nat) (ret : Option FieldType) (rm : Room) (As : List Value) (μ : MemT) (P : Int64 → MemT → Prop) : Prop := ∀ sz, Met l y (wsM y bytes nL ret) rm (PcE E As μ sz) (va_Ql P (wdP E) (eA E sz)) 0 0 (eA E sz)
def MCv (l : Launch) (E : EvT) (y : MethodName) (bytes : ByteArray) (nL : Nat) (ret : Option FieldType) (rm : Room) (As : List Value) (μ : MemT) (P : MemT → Prop) : Prop := ∀ sz, Met l y (wsM y bytes nL ret) rm (PcE E As μ sz) (va_Qv P (wdP E) (eA E sz)) 0 0 (eA E sz)
def rmN (f n : Nat) : Room := { frames := f, cells := 0, slots := 0, locals := n }
theorem PcE_blind (E : EvT) (As : List Value) (μ : MemT) (sz : Nat) : FrameBlind (PcE E As μ sz) := by
  intro a U g mk q
  obtain ⟨q0, q1, qP, qK, qI, qN⟩ := q
  exact ⟨q0, q1, qP, va_K.moved (u := U) (U := U.calling g mk a) (Vm.Alike.refl U.vm) qK, qI, va_Nw.same rfl rfl qN⟩
section VCALLS
variable {p : Program} {l : Launch} {e : Env} {R : Room} {s : State} {m : MethodId} {args : Array Value} {below : List Frame} {meth : Method} {c : Code} {E : EvT} {cc : ByteArray} {nL : Nat} {own : String} {cells slots : Nat} {Q : State → Prop} {pc : Nat} {lo lo' : List (Nat × Value)} {rest : List Value} {μ : MemT}
theorem PcE_at (C : Cx p s m args meth c E cc nL own) {H : Heap} (hP : va_P E.1 vwCl (eWl E μ) H) (As : List Value) : ∀ U : State, U.heap = H → s.WarmedH U.vm → PcE E As μ H.size As.toArray U := fun U hU hW => ⟨rfl, by rw [hU], by rw [hU]; exact hP, va_K.moved hW.alike C.2.2.2.2.2.1, C.2.2.2.2.2.2.1, va_Nw.warmM hW C.2.2.2.2.2.2.2.2⟩
theorem eA_le {E : EvT} {a b : Nat} (h : a ≤ b) : ∀ q, eA E b q → eA E a q := fun q hq => hq.elim Or.inl (fun z => Or.inr (Nat.le_trans h z))
theorem vroom {st : List Value} {ls : Array Slot} {pc : Nat} {st0 : List Value} (h : (st.map fun v => v.category).sum ≤ 8) : 2 * (F0 m pc ls st0).monitorRoom + (st.map fun v => v.category).sum ≤ 8 := lv_room h
theorem mc_entryi {E : EvT} {y : MethodName} {bytes : ByteArray} {nL : Nat} {ret : Option FieldType} {rm : Room} {As : List Value} {μ : MemT} {P : Int32 → MemT → Prop} (hy : plainName y.cls = true) (hlen : (lg_sl As).length ≤ nL)
    (body : ∀ (p : Program) (e : Env) (s : State) (m : MethodId) (below : List Frame) (meth : Method) (c : Code), Cx p s m As.toArray meth c E bytes nL y.cls → meth.sig.returnType = ret → V p l e rm s m As.toArray below meth c E nL 0 0 (MQ below (va_Qi P (wdP E) (eA E s.heap.size)) As.toArray s 0 0 (eA E s.heap.size)) 0 (lv_args 0 As) [] μ) : MCi l E y bytes nL ret rm As μ P := by
  intro sz
  refine Met.ofW (cc := bytes) (maxL := nL) (ret := ret) hy rfl ?_
  intro p e s m args below meth c s₁ B hml hv
  obtain ⟨rfl, hsz, hP, hK, hI, hN⟩ := hv
  subst hsz
  have hts := atoms_spec (ws := wsM y bytes nL ret) B.pre
  have hl := lv_entry As (n := nL) hlen
  rw [lg_entry_eq]
  exact body p e s m below meth c ⟨B.exec, B.bytes, hml, findClass_of_methodNamed B.named, fun w hw => hts w (List.mem_cons_of_mem _ hw), hK, hI, B.notSynchronized, hN⟩ B.returns s.heap [] _ hP va_S.rf hl
theorem v_callVi (C : Cx p s m args meth c E cc nL own) {y : MethodName} {bytes : ByteArray} {maxL : Nat} {ret : Option FieldType} {rm : Room} {n index ci N : Nat} {Cn : String} {T : u_T} {P : Int32 → MemT → Prop} (k : Nat) (As : List Value) (hk : k < 77) (hd : mkd k = 0) (hci : eCi k = ci) (hc : vwCl[ci]? = some (Cn, T, N)) (hM : MCi l E y bytes maxL ret rm (.ref (eAd E k) :: As) μ P) (hG : GoodIn lgood (wsV own index Cn y (wsM y bytes maxL ret))) (hrc : rm.cells = 0) (hrs : rm.slots = 0) (hdd : y.cls = Cn ∧ y.cls ≠ "java/lang/invoke/MethodHandle" ∧ y.cls ≠ "java/lang/invoke/VarHandle" ∧ (parseMethodDescriptor y.desc).map (fun d => d.parameters.length) = some n) (hR : rm.frames + 1 ≤ R.frames ∧ 8 + (maxL + 11) + rm.locals ≤ R.locals) (hn : As.length = n) {st0 : List Value} (hst : st0 = As.reverse ++ .ref (eAd E k) :: rest) (hW : (rest.map fun v => v.category).sum ≤ 8) (hf : cells ≤ R.cells ∧ slots ≤ R.slots) (hdg : decode cc pc = .ok (.invokevirtual index, 3))
    (kk : ∀ (r : Int32) (μ2 : MemT), P r μ2 → V p l e R s m args below meth c E nL cells slots Q (pc + 3) lo (.int r :: rest) μ2) : V p l e R s m args below meth c E nL cells slots Q pc lo st0 μ := by
  intro H locs ls hP hS hl
  have hFc : ∀ q, eA E H.size q → eA E s.heap.size q := eA_le hS.1
  refine va_calli (va_runV (As := As) (rest := rest) ⟨C.1, C.2.1, C.2.2.1, C.2.2.2.1, C.2.2.2.2.1⟩ (hM H.size) (cwV n C.2.2.2.2.1 hG rfl hrc hrs hdd hR) ⟨PcE_blind E _ μ H.size, va_recv C.2.2.2.2.2.1 hP (ci := ci) (q0 := k) hc ((eWl_get E μ hk).trans (by rw [eEn_O hd, hci])), PcE_at C hP (.ref (eAd E k) :: As)⟩ rfl hn hl.1 hst (lv_room hW) hdg hf) hS (fun q _ h => hFc q h) hFc (fun r μ2 t H1 locs1 ht hvm hp hB hz1 hk1 hS1 => ?_)
  rw [wdP, ht] at hB
  exact kk r μ2 hp H1 locs1 ls hB hS1 hl
theorem v_callSi (C : Cx p s m args meth c E cc nL own) {y : MethodName} {bytes : ByteArray} {maxL : Nat} {ret : Option FieldType} {rm : Room} {n index : Nat} {P : Int32 → MemT → Prop} (As : List Value) (hM : MCi l E y bytes maxL ret rm As μ P) (hG : GoodIn lgood (wsS own index y (wsM y bytes maxL ret))) (hrc : rm.cells = 0) (hrs : rm.slots = 0) (hdd : y.cls = own ∧ y.cls ≠ "java/lang/invoke/MethodHandle" ∧ y.cls ≠ "java/lang/invoke/VarHandle" ∧ (parseMethodDescriptor y.desc).map (fun d => d.parameters.length) = some n) (hR : rm.frames + 1 ≤ R.frames ∧ 8 + (maxL + 11) + rm.locals ≤ R.locals) (hn : As.length = n) {st0 : List Value} (hst : st0 = As.reverse ++ rest) (hW : (rest.map fun v => v.category).sum ≤ 8) (hf : cells ≤ R.cells ∧ slots ≤ R.slots) (hdg : decode cc pc = .ok (.invokestatic index, 3))
    (kk : ∀ (r : Int32) (μ2 : MemT), P r μ2 → V p l e R s m args below meth c E nL cells slots Q (pc + 3) lo (.int r :: rest) μ2) : V p l e R s m args below meth c E nL cells slots Q pc lo st0 μ := by
  intro H locs ls hP hS hl
  have hFc : ∀ q, eA E H.size q → eA E s.heap.size q := eA_le hS.1
  refine va_calli (va_runS (As := As) (rest := rest) ⟨C.1, C.2.1, C.2.2.1, C.2.2.2.1, C.2.2.2.2.1⟩ (hM H.size) (cwS n C.2.2.2.2.1 hG rfl hrc hrs hdd hR) ⟨PcE_blind E _ μ H.size, PcE_at C hP As⟩ rfl hn hl.1 hst (lv_room hW) hdg hf) hS (fun q _ h => hFc q h) hFc (fun r μ2 t H1 locs1 ht hvm hp hB hz1 hk1 hS1 => ?_)
  rw [wdP, ht] at hB
  exact kk r μ2 hp H1 locs1 ls hB hS1 hl
theorem mc_entryl {E : EvT} {y : MethodName} {bytes : ByteArray} {nL : Nat} {ret : Option FieldType} {rm : Room} {As : List Value} {μ : MemT} {P : Int64 → MemT → Prop} (hy : plainName y.cls = true) (hlen : (lg_sl As).length ≤ nL)
    (body : ∀ (p : Program) (e : Env) (s : State) (m : MethodId) (below : List Frame) (meth : Method) (c : Code), Cx p s m As.toArray meth c E bytes nL y.cls → meth.sig.returnType = ret → V p l e rm s m As.toArray below meth c E nL 0 0 (MQ below (va_Ql P (wdP E) (eA E s.heap.size)) As.toArray s 0 0 (eA E s.heap.size)) 0 (lv_args 0 As) [] μ) : MCl l E y bytes nL ret rm As μ P := by
  intro sz
  refine Met.ofW (cc := bytes) (maxL := nL) (ret := ret) hy rfl ?_
  intro p e s m args below meth c s₁ B hml hv
  obtain ⟨rfl, hsz, hP, hK, hI, hN⟩ := hv
  subst hsz
  have hts := atoms_spec (ws := wsM y bytes nL ret) B.pre
  have hl := lv_entry As (n := nL) hlen
  rw [lg_entry_eq]
  exact body p e s m below meth c ⟨B.exec, B.bytes, hml, findClass_of_methodNamed B.named, fun w hw => hts w (List.mem_cons_of_mem _ hw), hK, hI, B.notSynchronized, hN⟩ B.returns s.heap [] _ hP va_S.rf hl
theorem v_callVl (C : Cx p s m args meth c E cc nL own) {y : MethodName} {bytes : ByteArray} {maxL : Nat} {ret : Option FieldType} {rm : Room} {n index ci N : Nat} {Cn : String} {T : u_T} {P : Int64 → MemT → Prop} (k : Nat) (As : List Value) (hk : k < 77) (hd : mkd k = 0) (hci : eCi k = ci) (hc : vwCl[ci]? = some (Cn, T, N)) (hM : MCl l E y bytes maxL ret rm (.ref (eAd E k) :: As) μ P) (hG : GoodIn lgood (wsV own index Cn y (wsM y bytes maxL ret))) (hrc : rm.cells = 0) (hrs : rm.slots = 0) (hdd : y.cls = Cn ∧ y.cls ≠ "java/lang/invoke/MethodHandle" ∧ y.cls ≠ "java/lang/invoke/VarHandle" ∧ (parseMethodDescriptor y.desc).map (fun d => d.parameters.length) = some n) (hR : rm.frames + 1 ≤ R.frames ∧ 8 + (maxL + 11) + rm.locals ≤ R.locals) (hn : As.length = n) {st0 : List Value} (hst : st0 = As.reverse ++ .ref (eAd E k) :: rest) (hW : (rest.map fun v => v.category).sum ≤ 8) (hf : cells ≤ R.cells ∧ slots ≤ R.slots) (hdg : decode cc pc = .ok (.invokevirtual index, 3))
    (kk : ∀ (r : Int64) (μ2 : MemT), P r μ2 → V p l e R s m args below meth c E nL cells slots Q (pc + 3) lo (.long r :: rest) μ2) : V p l e R s m args below meth c E nL cells slots Q pc lo st0 μ := by
  intro H locs ls hP hS hl
  have hFc : ∀ q, eA E H.size q → eA E s.heap.size q := eA_le hS.1
  refine va_calll (va_runV (As := As) (rest := rest) ⟨C.1, C.2.1, C.2.2.1, C.2.2.2.1, C.2.2.2.2.1⟩ (hM H.size) (cwV n C.2.2.2.2.1 hG rfl hrc hrs hdd hR) ⟨PcE_blind E _ μ H.size, va_recv C.2.2.2.2.2.1 hP (ci := ci) (q0 := k) hc ((eWl_get E μ hk).trans (by rw [eEn_O hd, hci])), PcE_at C hP (.ref (eAd E k) :: As)⟩ rfl hn hl.1 hst (lv_room hW) hdg hf) hS (fun q _ h => hFc q h) hFc (fun r μ2 t H1 locs1 ht hvm hp hB hz1 hk1 hS1 => ?_)
  rw [wdP, ht] at hB
  exact kk r μ2 hp H1 locs1 ls hB hS1 hl
theorem v_callSl (C : Cx p s m args meth c E cc nL own) {y : MethodName} {bytes : ByteArray} {maxL : Nat} {ret : Option FieldType} {rm : Room} {n index : Nat} {P : Int64 → MemT → Prop} (As : List Value) (hM : MCl l E y bytes maxL ret rm As μ P) (hG : GoodIn lgood (wsS own index y (wsM y bytes maxL ret))) (hrc : rm.cells = 0) (hrs : rm.slots = 0) (hdd : y.cls = own ∧ y.cls ≠ "java/lang/invoke/MethodHandle" ∧ y.cls ≠ "java/lang/invoke/VarHandle" ∧ (parseMethodDescriptor y.desc).map (fun d => d.parameters.length) = some n) (hR : rm.frames + 1 ≤ R.frames ∧ 8 + (maxL + 11) + rm.locals ≤ R.locals) (hn : As.length = n) {st0 : List Value} (hst : st0 = As.reverse ++ rest) (hW : (rest.map fun v => v.category).sum ≤ 8) (hf : cells ≤ R.cells ∧ slots ≤ R.slots) (hdg : decode cc pc = .ok (.invokestatic index, 3))
    (kk : ∀ (r : Int64) (μ2 : MemT), P r μ2 → V p l e R s m args below meth c E nL cells slots Q (pc + 3) lo (.long r :: rest) μ2) : V p l e R s m args below meth c E nL cells slots Q pc lo st0 μ := by
  intro H locs ls hP hS hl
  have hFc : ∀ q, eA E H.size q → eA E s.heap.size q := eA_le hS.1
  refine va_calll (va_runS (As := As) (rest := rest) ⟨C.1, C.2.1, C.2.2.1, C.2.2.2.1, C.2.2.2.2.1⟩ (hM H.size) (cwS n C.2.2.2.2.1 hG rfl hrc hrs hdd hR) ⟨PcE_blind E _ μ H.size, PcE_at C hP As⟩ rfl hn hl.1 hst (lv_room hW) hdg hf) hS (fun q _ h => hFc q h) hFc (fun r μ2 t H1 locs1 ht hvm hp hB hz1 hk1 hS1 => ?_)
  rw [wdP, ht] at hB
  exact kk r μ2 hp H1 locs1 ls hB hS1 hl
theorem mc_entryv {E : EvT} {y : MethodName} {bytes : ByteArray} {nL : Nat} {ret : Option FieldType} {rm : Room} {As : List Value} {μ : MemT} {P : MemT → Prop} (hy : plainName y.cls = true) (hlen : (lg_sl As).length ≤ nL)
    (body : ∀ (p : Program) (e : Env) (s : State) (m : MethodId) (below : List Frame) (meth : Method) (c : Code), Cx p s m As.toArray meth c E bytes nL y.cls → meth.sig.returnType = ret → V p l e rm s m As.toArray below meth c E nL 0 0 (MQ below (va_Qv P (wdP E) (eA E s.heap.size)) As.toArray s 0 0 (eA E s.heap.size)) 0 (lv_args 0 As) [] μ) : MCv l E y bytes nL ret rm As μ P := by
  intro sz
  refine Met.ofW (cc := bytes) (maxL := nL) (ret := ret) hy rfl ?_
  intro p e s m args below meth c s₁ B hml hv
  obtain ⟨rfl, hsz, hP, hK, hI, hN⟩ := hv
  subst hsz
  have hts := atoms_spec (ws := wsM y bytes nL ret) B.pre
  have hl := lv_entry As (n := nL) hlen
  rw [lg_entry_eq]
  exact body p e s m below meth c ⟨B.exec, B.bytes, hml, findClass_of_methodNamed B.named, fun w hw => hts w (List.mem_cons_of_mem _ hw), hK, hI, B.notSynchronized, hN⟩ B.returns s.heap [] _ hP va_S.rf hl
theorem v_callVv (C : Cx p s m args meth c E cc nL own) {y : MethodName} {bytes : ByteArray} {maxL : Nat} {ret : Option FieldType} {rm : Room} {n index ci N : Nat} {Cn : String} {T : u_T} {P : MemT → Prop} (k : Nat) (As : List Value) (hk : k < 77) (hd : mkd k = 0) (hci : eCi k = ci) (hc : vwCl[ci]? = some (Cn, T, N)) (hM : MCv l E y bytes maxL ret rm (.ref (eAd E k) :: As) μ P) (hG : GoodIn lgood (wsV own index Cn y (wsM y bytes maxL ret))) (hrc : rm.cells = 0) (hrs : rm.slots = 0) (hdd : y.cls = Cn ∧ y.cls ≠ "java/lang/invoke/MethodHandle" ∧ y.cls ≠ "java/lang/invoke/VarHandle" ∧ (parseMethodDescriptor y.desc).map (fun d => d.parameters.length) = some n) (hR : rm.frames + 1 ≤ R.frames ∧ 8 + (maxL + 11) + rm.locals ≤ R.locals) (hn : As.length = n) {st0 : List Value} (hst : st0 = As.reverse ++ .ref (eAd E k) :: rest) (hW : (rest.map fun v => v.category).sum ≤ 8) (hf : cells ≤ R.cells ∧ slots ≤ R.slots) (hdg : decode cc pc = .ok (.invokevirtual index, 3))
    (kk : ∀ (μ2 : MemT), P μ2 → V p l e R s m args below meth c E nL cells slots Q (pc + 3) lo (rest) μ2) : V p l e R s m args below meth c E nL cells slots Q pc lo st0 μ := by
  intro H locs ls hP hS hl
  have hFc : ∀ q, eA E H.size q → eA E s.heap.size q := eA_le hS.1
  refine va_callv (va_runV (As := As) (rest := rest) ⟨C.1, C.2.1, C.2.2.1, C.2.2.2.1, C.2.2.2.2.1⟩ (hM H.size) (cwV n C.2.2.2.2.1 hG rfl hrc hrs hdd hR) ⟨PcE_blind E _ μ H.size, va_recv C.2.2.2.2.2.1 hP (ci := ci) (q0 := k) hc ((eWl_get E μ hk).trans (by rw [eEn_O hd, hci])), PcE_at C hP (.ref (eAd E k) :: As)⟩ rfl hn hl.1 hst (lv_room hW) hdg hf) hS (fun q _ h => hFc q h) hFc (fun μ2 t H1 locs1 ht hvm hp hB hz1 hk1 hS1 => ?_)
  rw [wdP, ht] at hB
  exact kk μ2 hp H1 locs1 ls hB hS1 hl
theorem v_callSv (C : Cx p s m args meth c E cc nL own) {y : MethodName} {bytes : ByteArray} {maxL : Nat} {ret : Option FieldType} {rm : Room} {n index : Nat} {P : MemT → Prop} (As : List Value) (hM : MCv l E y bytes maxL ret rm As μ P) (hG : GoodIn lgood (wsS own index y (wsM y bytes maxL ret))) (hrc : rm.cells = 0) (hrs : rm.slots = 0) (hdd : y.cls = own ∧ y.cls ≠ "java/lang/invoke/MethodHandle" ∧ y.cls ≠ "java/lang/invoke/VarHandle" ∧ (parseMethodDescriptor y.desc).map (fun d => d.parameters.length) = some n) (hR : rm.frames + 1 ≤ R.frames ∧ 8 + (maxL + 11) + rm.locals ≤ R.locals) (hn : As.length = n) {st0 : List Value} (hst : st0 = As.reverse ++ rest) (hW : (rest.map fun v => v.category).sum ≤ 8) (hf : cells ≤ R.cells ∧ slots ≤ R.slots) (hdg : decode cc pc = .ok (.invokestatic index, 3))
    (kk : ∀ (μ2 : MemT), P μ2 → V p l e R s m args below meth c E nL cells slots Q (pc + 3) lo (rest) μ2) : V p l e R s m args below meth c E nL cells slots Q pc lo st0 μ := by
  intro H locs ls hP hS hl
  have hFc : ∀ q, eA E H.size q → eA E s.heap.size q := eA_le hS.1
  refine va_callv (va_runS (As := As) (rest := rest) ⟨C.1, C.2.1, C.2.2.1, C.2.2.2.1, C.2.2.2.2.1⟩ (hM H.size) (cwS n C.2.2.2.2.1 hG rfl hrc hrs hdd hR) ⟨PcE_blind E _ μ H.size, PcE_at C hP As⟩ rfl hn hl.1 hst (lv_room hW) hdg hf) hS (fun q _ h => hFc q h) hFc (fun μ2 t H1 locs1 ht hvm hp hB hz1 hk1 hS1 => ?_)
  rw [wdP, ht] at hB
  exact kk μ2 hp H1 locs1 ls hB hS1 hl
theorem v_callNl (C : Cx p s m args meth c E cc nL own) {bytes : ByteArray} {maxL : Nat} {ret : Option FieldType} {rm : Room} {n : Nat} {P : Int64 → MemT → Prop} (As : List Value) (hM : MCl l E yX8_shareOf bytes maxL ret rm As μ P) (howner : own = "TextOrder$Segments") (hG : GoodIn lgood (wsM yX8_shareOf bytes maxL ret)) (hini : Cond.initialized yX8_shareOf.cls ∈ lgood) (hsta : Cond.static yX8_shareOf ∈ lgood) (hrc : rm.cells = 0) (hrs : rm.slots = 0) (hdd : yX8_shareOf.cls ≠ "java/lang/invoke/MethodHandle" ∧ yX8_shareOf.cls ≠ "java/lang/invoke/VarHandle" ∧ (parseMethodDescriptor yX8_shareOf.desc).map (fun d => d.parameters.length) = some n) (hR : rm.frames + 1 ≤ R.frames ∧ 8 + (maxL + 11) + rm.locals ≤ R.locals) (hn : As.length = n) {st0 : List Value} (hst : st0 = As.reverse ++ rest) (hW : (rest.map fun v => v.category).sum ≤ 8) (hf : cells ≤ R.cells ∧ slots ≤ R.slots) (hdg : decode cc pc = .ok (.invokestatic 85, 3))
    (kk : ∀ (r : Int64) (μ2 : MemT), P r μ2 → V p l e R s m args below meth c E nL cells slots Q (pc + 3) lo (.long r :: rest) μ2) : V p l e R s m args below meth c E nL cells slots Q pc lo st0 μ := by
  subst howner
  intro H locs ls hP hS hl
  have hFc : ∀ q, eA E H.size q → eA E s.heap.size q := eA_le hS.1
  refine va_calll (va_runSN (As := As) (rest := rest) ⟨C.1, C.2.1, C.2.2.1, C.2.2.2.1, C.2.2.2.2.1⟩ (hM H.size) ⟨va_cnB n C.2.2.2.2.1 hG rfl hrc hrs C.2.2.2.2.2.2.2.2 (C.2.2.2.2.1 _ hini) hdd hR, C.2.2.2.2.1 _ hsta, trivial⟩ ⟨PcE_blind E _ μ H.size, PcE_at C hP As⟩ rfl hn hl.1 hst (lv_room hW) hdg hf) hS (fun q _ h => hFc q h) hFc (fun r μ2 t H1 locs1 ht hvm hp hB hz1 hk1 hS1 => ?_)
  rw [wdP, ht] at hB
  exact kk r μ2 hp H1 locs1 ls hB hS1 hl
theorem v_iret (C : Cx p s m args meth c E cc nL own) {x : Int32} {P : Int32 → MemT → Prop} (hr : meth.sig.returnType = some .int) (hp : P x μ) (hdg : decode cc pc = .ok (.ireturn, 1)) : V p l e R s m args below meth c E nL 0 0 (MQ below (va_Qi P (wdP E) (eA E s.heap.size)) args s 0 0 (eA E s.heap.size)) pc lo [.int x] μ := fun H locs ls hP hS hl => W.iret (v := x) C.1 C.2.1 hr (fun t ht _ => ⟨⟨x, μ, rfl, hp, by rw [wdP, ht]; exact hP⟩, hS.F ht⟩) hS.2.2 hdg C.2.2.2.2.2.2.2.1
theorem v_zret (C : Cx p s m args meth c E cc nL own) {x : Int32} {P : Int32 → MemT → Prop} (hr : meth.sig.returnType = some .boolean) (hn : narrow .boolean (.int x) = .int x) (hp : P x μ) (hdg : decode cc pc = .ok (.ireturn, 1)) : V p l e R s m args below meth c E nL 0 0 (MQ below (va_Qi P (wdP E) (eA E s.heap.size)) args s 0 0 (eA E s.heap.size)) pc lo [.int x] μ := fun H locs ls hP hS hl => W.zret (v := x) C.1 C.2.1 hr hn (fun t ht _ => ⟨⟨x, μ, rfl, hp, by rw [wdP, ht]; exact hP⟩, hS.F ht⟩) hS.2.2 hdg C.2.2.2.2.2.2.2.1
theorem v_lret (C : Cx p s m args meth c E cc nL own) {x : Int64} {P : Int64 → MemT → Prop} (hr : meth.sig.returnType = some .long) (hp : P x μ) (hdg : decode cc pc = .ok (.lreturn, 1)) : V p l e R s m args below meth c E nL 0 0 (MQ below (va_Ql P (wdP E) (eA E s.heap.size)) args s 0 0 (eA E s.heap.size)) pc lo [.long x] μ := fun H locs ls hP hS hl => W.lret (v := x) C.1 C.2.1 hr (fun t ht _ => ⟨⟨x, μ, rfl, hp, by rw [wdP, ht]; exact hP⟩, hS.F ht⟩) hS.2.2 hdg C.2.2.2.2.2.2.2.1
theorem v_vret (C : Cx p s m args meth c E cc nL own) {P : MemT → Prop} (hr : meth.sig.returnType = none) (hp : P μ) (hdg : decode cc pc = .ok (.return_, 1)) : V p l e R s m args below meth c E nL 0 0 (MQ below (va_Qv P (wdP E) (eA E s.heap.size)) args s 0 0 (eA E s.heap.size)) pc lo [] μ := fun H locs ls hP hS hl => W.vret C.1 C.2.1 hr (fun t ht _ => ⟨⟨μ, rfl, hp, by rw [wdP, ht]; exact hP⟩, hS.F ht⟩) hS.2.2 hdg C.2.2.2.2.2.2.2.1
end VCALLS
theorem nb0 : narrow .boolean (.int 0) = .int 0 := by decide
theorem nb1 : narrow .boolean (.int 1) = .int 1 := by decide
theorem nb01 {x : Int32} (h : x = 0 ∨ x = 1) : narrow .boolean (.int x) = .int x := by rcases h with rfl | rfl <;> decide
