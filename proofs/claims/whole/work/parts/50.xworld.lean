/-! Methods that may throw: what they need of the world, their contracts and rows. -/
def xbad : Cond → Bool
  | .castable _ _ => true
  | .declares _ => true
  | _ => false
def eXb (U : State) : Prop := ∀ w ∈ lw_tbl, xbad w = true → va_Nw w U
def lstr : List (Nat × String) := [(77, "no such sign can be"), (88, "the page is full"), (105, "no such map or code"), (112, "no such letters"), (122, "no such tag"), (157, "no share of no width"), (168, "no such word, or nothing to tell of it"), (174, "no such word"), (180, "no such letter"), (189, "too many letters are sought"), (213, "no such sign"), (216, "nothing stands there")]
def eSt (U : State) : Prop := ∀ q ∈ lstr, ∃ sa, vk_R RX8 q.1 q.2 sa U
def eZ (E : EvT) (sz : Nat) (U : State) (H : Heap) : Prop := vx_Zq Bundle.tN "UNASSIGNED_STACK" Bundle.steD (eA E sz) U H ∧ vx_Zq Bundle.tN "SUPPRESSED_SENTINEL" Bundle.listD (eA E sz) U H
def lnc : List (String × String) := [("java/lang/UnsupportedOperationException", "java/lang/IllegalArgumentException"), ("java/lang/IllegalArgumentException", "java/lang/IndexOutOfBoundsException"), ("java/lang/IllegalArgumentException", "java/util/NoSuchElementException")]
def eNc (U : State) : Prop := ∀ q ∈ lnc, va_Nc q.1 q.2 U
def eX (E : EvT) (U : State) : Prop := eZ E U.heap.size U U.heap ∧ eSt U ∧ eXb U ∧ eNc U
theorem xNw_warm {w : Cond} (hx : xbad w = true) {s U : State} (hW : s.WarmedH U.vm) (h : va_Nw w s) : va_Nw w U := by
  cases w <;> first | exact va_Nw.warmC hW h | exact va_Nw.warmD hW h | (exact absurd hx (by simp [xbad]))
theorem xNw_same {w : Cond} (hx : xbad w = true) {s U : State} (hv : s.vm = U.vm) (h : va_Nw w s) : va_Nw w U := by
  cases w <;> first | exact va_Nw.same rfl hv h | (exact absurd hx (by simp [xbad]))
theorem eX_at {E : EvT} {s U : State} {H : Heap} {locs : List Loc} (h : eX E s) (hS : va_S (eA E s.heap.size) s.heap H locs) (hU : U.heap = H) (hW : s.WarmedH U.vm) : eX E U := by
  obtain ⟨⟨z1, z2⟩, hs, hb, hn⟩ := h
  refine ⟨?_, fun q hq => ?_, fun w hw hx => xNw_warm hx hW (hb w hw hx), fun q hq => va_Nc.moved hW.alike (hn q hq)⟩
  · rw [hU]
    exact ⟨(vx_Zq.moved hW.alike (z1.kept hS.2.1)).narrow (eA_le hS.1), (vx_Zq.moved hW.alike (z2.kept hS.2.1)).narrow (eA_le hS.1)⟩
  · obtain ⟨sa, h⟩ := hs q hq
    exact ⟨sa, vk_R.warm hW h⟩
def PcX (E : EvT) (As : List Value) (μ : MemT) (sz : Nat) : Array Value → State → Prop := va_Pc As (fun U => U.heap.size = sz ∧ eW E μ U ∧ eX E U)
theorem PcX_blind (E : EvT) (As : List Value) (μ : MemT) (sz : Nat) : FrameBlind (PcX E As μ sz) := by
  intro a U g mk q
  obtain ⟨q0, q1, ⟨qP, qK, qI, qN⟩, ⟨⟨z1, z2⟩, hs, hb, hn⟩⟩ := q
  refine ⟨q0, q1, ⟨qP, va_K.moved (u := U) (U := U.calling g mk a) (Vm.Alike.refl U.vm) qK, qI, va_Nw.same rfl rfl qN⟩, ⟨vx_Zq.moved (u := U) (U := U.calling g mk a) (Vm.Alike.refl U.vm) z1, vx_Zq.moved (u := U) (U := U.calling g mk a) (Vm.Alike.refl U.vm) z2⟩, fun q hq => ?_, fun w hw hx => xNw_same (s := U) hx rfl (hb w hw hx), fun q hq => va_Nc.moved (u := U) (U := U.calling g mk a) (Vm.Alike.refl U.vm) (hn q hq)⟩
  obtain ⟨sa, h⟩ := hs q hq
  exact ⟨sa, vk_R.same (u := U) rfl h⟩
def XCe (E : EvT) (PX : String → MemT → Prop) (sz : Nat) : String → State → State → Prop := vx_X (S := String × MemT) (fun u => PX u.1 u.2) (fun X u t => X = u.1 ∧ wdP E u.2 t) (eA E sz)
def rmX (f n k : Nat) : Room := { frames := f, cells := k, slots := 6 * k, locals := n }
def MXi (l : Launch) (E : EvT) (y : MethodName) (bytes : ByteArray) (nL : Nat) (ret : Option FieldType) (rm : Room) (As : List Value) (μ : MemT) (P : Int32 → MemT → Prop) (PX : String → MemT → Prop) (k : Nat) : Prop := ∀ sz, vx_Met l y (wsM y bytes nL ret) rm (PcX E As μ sz) (va_Qi P (wdP E) (eA E sz)) (XCe E PX sz) k (6 * k) (eA E sz)
def MXl (l : Launch) (E : EvT) (y : MethodName) (bytes : ByteArray) (nL : Nat) (ret : Option FieldType) (rm : Room) (As : List Value) (μ : MemT) (P : Int64 → MemT → Prop) (PX : String → MemT → Prop) (k : Nat) : Prop := ∀ sz, vx_Met l y (wsM y bytes nL ret) rm (PcX E As μ sz) (va_Ql P (wdP E) (eA E sz)) (XCe E PX sz) k (6 * k) (eA E sz)
def MXv (l : Launch) (E : EvT) (y : MethodName) (bytes : ByteArray) (nL : Nat) (ret : Option FieldType) (rm : Room) (As : List Value) (μ : MemT) (P : MemT → Prop) (PX : String → MemT → Prop) (k : Nat) : Prop := ∀ sz, vx_Met l y (wsM y bytes nL ret) rm (PcX E As μ sz) (va_Qv P (wdP E) (eA E sz)) (XCe E PX sz) k (6 * k) (eA E sz)
/-- what stands fast in a body that may throw -/
def CX (p : Program) (l : Launch) (s : State) (m : MethodId) (args : Array Value) (meth : Method) (c : Code) (E : EvT) (cc : ByteArray) (nL : Nat) (own : String) : Prop := Cx p s m args meth c E cc nL own ∧ eX E s ∧ l.stackTraces = false ∧ ∀ x ∈ c.exceptionTable.toList, False
def QXi (below : List Frame) (E : EvT) (P : Int32 → MemT → Prop) (PX : String → MemT → Prop) (args : Array Value) (s : State) (k : Nat) : State → Prop := vx_MQ below (va_Qi P (wdP E) (eA E s.heap.size)) (XCe E PX s.heap.size) args s k (6 * k) (eA E s.heap.size)
def QXl (below : List Frame) (E : EvT) (P : Int64 → MemT → Prop) (PX : String → MemT → Prop) (args : Array Value) (s : State) (k : Nat) : State → Prop := vx_MQ below (va_Ql P (wdP E) (eA E s.heap.size)) (XCe E PX s.heap.size) args s k (6 * k) (eA E s.heap.size)
def QXv (below : List Frame) (E : EvT) (P : MemT → Prop) (PX : String → MemT → Prop) (args : Array Value) (s : State) (k : Nat) : State → Prop := vx_MQ below (va_Qv P (wdP E) (eA E s.heap.size)) (XCe E PX s.heap.size) args s k (6 * k) (eA E s.heap.size)
section XROWS
variable {p : Program} {l : Launch} {e : Env} {R : Room} {s : State} {m : MethodId} {args : Array Value} {below : List Frame} {meth : Method} {c : Code} {E : EvT} {cc : ByteArray} {nL : Nat} {own : String} {cells slots : Nat} {Q : State → Prop} {pc : Nat} {lo lo' : List (Nat × Value)} {rest : List Value} {μ : MemT}
theorem mx_entryi (hl9 : l.stackTraces = false) {y : MethodName} {bytes : ByteArray} {ret : Option FieldType} {rm : Room} {As : List Value} {P : Int32 → MemT → Prop} {PX : String → MemT → Prop} {k : Nat} (hy : plainName y.cls = true) (hlen : (lg_sl As).length ≤ nL)
    (body : ∀ (p : Program) (e : Env) (s : State) (m : MethodId) (below : List Frame) (meth : Method) (c : Code), CX p l s m As.toArray meth c E bytes nL y.cls → meth.sig.returnType = ret → V p l e rm s m As.toArray below meth c E nL 0 0 (QXi below E P PX As.toArray s k) 0 (lv_args 0 As) [] μ) : MXi l E y bytes nL ret rm As μ P PX k := by
  intro sz
  refine vx_ofW (cc := bytes) (maxL := nL) (ret := ret) hy rfl ?_
  intro p e s m args below meth c s₁ B hml ht hv
  obtain ⟨rfl, hsz, ⟨hP, hK, hI, hN⟩, hX⟩ := hv
  subst hsz
  have hts := atoms_spec (ws := wsM y bytes nL ret) B.pre
  have hl := lv_entry As (n := nL) hlen
  rw [lg_entry_eq]
  exact body p e s m below meth c ⟨⟨B.exec, B.bytes, hml, findClass_of_methodNamed B.named, fun w hw => hts w (List.mem_cons_of_mem _ hw), hK, hI, B.notSynchronized, hN⟩, hX, hl9, ht⟩ B.returns s.heap [] _ hP va_S.rf hl
theorem mx_entryl (hl9 : l.stackTraces = false) {y : MethodName} {bytes : ByteArray} {ret : Option FieldType} {rm : Room} {As : List Value} {P : Int64 → MemT → Prop} {PX : String → MemT → Prop} {k : Nat} (hy : plainName y.cls = true) (hlen : (lg_sl As).length ≤ nL)
    (body : ∀ (p : Program) (e : Env) (s : State) (m : MethodId) (below : List Frame) (meth : Method) (c : Code), CX p l s m As.toArray meth c E bytes nL y.cls → meth.sig.returnType = ret → V p l e rm s m As.toArray below meth c E nL 0 0 (QXl below E P PX As.toArray s k) 0 (lv_args 0 As) [] μ) : MXl l E y bytes nL ret rm As μ P PX k := by
  intro sz
  refine vx_ofW (cc := bytes) (maxL := nL) (ret := ret) hy rfl ?_
  intro p e s m args below meth c s₁ B hml ht hv
  obtain ⟨rfl, hsz, ⟨hP, hK, hI, hN⟩, hX⟩ := hv
  subst hsz
  have hts := atoms_spec (ws := wsM y bytes nL ret) B.pre
  have hl := lv_entry As (n := nL) hlen
  rw [lg_entry_eq]
  exact body p e s m below meth c ⟨⟨B.exec, B.bytes, hml, findClass_of_methodNamed B.named, fun w hw => hts w (List.mem_cons_of_mem _ hw), hK, hI, B.notSynchronized, hN⟩, hX, hl9, ht⟩ B.returns s.heap [] _ hP va_S.rf hl
theorem mx_entryv (hl9 : l.stackTraces = false) {y : MethodName} {bytes : ByteArray} {ret : Option FieldType} {rm : Room} {As : List Value} {P : MemT → Prop} {PX : String → MemT → Prop} {k : Nat} (hy : plainName y.cls = true) (hlen : (lg_sl As).length ≤ nL)
    (body : ∀ (p : Program) (e : Env) (s : State) (m : MethodId) (below : List Frame) (meth : Method) (c : Code), CX p l s m As.toArray meth c E bytes nL y.cls → meth.sig.returnType = ret → V p l e rm s m As.toArray below meth c E nL 0 0 (QXv below E P PX As.toArray s k) 0 (lv_args 0 As) [] μ) : MXv l E y bytes nL ret rm As μ P PX k := by
  intro sz
  refine vx_ofW (cc := bytes) (maxL := nL) (ret := ret) hy rfl ?_
  intro p e s m args below meth c s₁ B hml ht hv
  obtain ⟨rfl, hsz, ⟨hP, hK, hI, hN⟩, hX⟩ := hv
  subst hsz
  have hts := atoms_spec (ws := wsM y bytes nL ret) B.pre
  have hl := lv_entry As (n := nL) hlen
  rw [lg_entry_eq]
  exact body p e s m below meth c ⟨⟨B.exec, B.bytes, hml, findClass_of_methodNamed B.named, fun w hw => hts w (List.mem_cons_of_mem _ hw), hK, hI, B.notSynchronized, hN⟩, hX, hl9, ht⟩ B.returns s.heap [] _ hP va_S.rf hl
-- returns
theorem x_iret (C : Cx p s m args meth c E cc nL own) {x : Int32} {P : Int32 → MemT → Prop} {PX : String → MemT → Prop} {k : Nat} (hr : meth.sig.returnType = some .int) (hp : P x μ) (hdg : decode cc pc = .ok (.ireturn, 1)) (hc : cells ≤ k) (hs : slots ≤ 6 * k) : V p l e R s m args below meth c E nL cells slots (QXi below E P PX args s k) pc lo [.int x] μ := fun H locs ls hP hS hl => vx_ret (W.widen hc hs (W.iret (v := x) C.1 C.2.1 hr (fun t ht _ => ⟨⟨x, μ, rfl, hp, by rw [wdP, ht]; exact hP⟩, hS.F ht⟩) hS.2.2 hdg C.2.2.2.2.2.2.2.1))
theorem x_zret (C : Cx p s m args meth c E cc nL own) {x : Int32} {P : Int32 → MemT → Prop} {PX : String → MemT → Prop} {k : Nat} (hr : meth.sig.returnType = some .boolean) (hn : narrow .boolean (.int x) = .int x) (hp : P x μ) (hdg : decode cc pc = .ok (.ireturn, 1)) (hc : cells ≤ k) (hs : slots ≤ 6 * k) : V p l e R s m args below meth c E nL cells slots (QXi below E P PX args s k) pc lo [.int x] μ := fun H locs ls hP hS hl => vx_ret (W.widen hc hs (W.zret (v := x) C.1 C.2.1 hr hn (fun t ht _ => ⟨⟨x, μ, rfl, hp, by rw [wdP, ht]; exact hP⟩, hS.F ht⟩) hS.2.2 hdg C.2.2.2.2.2.2.2.1))
theorem x_lret (C : Cx p s m args meth c E cc nL own) {x : Int64} {P : Int64 → MemT → Prop} {PX : String → MemT → Prop} {k : Nat} (hr : meth.sig.returnType = some .long) (hp : P x μ) (hdg : decode cc pc = .ok (.lreturn, 1)) (hc : cells ≤ k) (hs : slots ≤ 6 * k) : V p l e R s m args below meth c E nL cells slots (QXl below E P PX args s k) pc lo [.long x] μ := fun H locs ls hP hS hl => vx_ret (W.widen hc hs (W.lret (v := x) C.1 C.2.1 hr (fun t ht _ => ⟨⟨x, μ, rfl, hp, by rw [wdP, ht]; exact hP⟩, hS.F ht⟩) hS.2.2 hdg C.2.2.2.2.2.2.2.1))
theorem x_vret (C : Cx p s m args meth c E cc nL own) {P : MemT → Prop} {PX : String → MemT → Prop} {k : Nat} (hr : meth.sig.returnType = none) (hp : P μ) (hdg : decode cc pc = .ok (.return_, 1)) (hc : cells ≤ k) (hs : slots ≤ 6 * k) : V p l e R s m args below meth c E nL cells slots (QXv below E P PX args s k) pc lo [] μ := fun H locs ls hP hS hl => vx_ret (W.widen hc hs (W.vret C.1 C.2.1 hr (fun t ht _ => ⟨⟨μ, rfl, hp, by rw [wdP, ht]; exact hP⟩, hS.F ht⟩) hS.2.2 hdg C.2.2.2.2.2.2.2.1))
/-- the words of a throw of cls, made by the pool's entries ik, ic -/
def XTh (ik ic : Nat) (cls : String) : Prop := Bundle.fit cls = true ∧ Cond.classLink RX8 ik cls ∈ lgood ∧ Cond.initialized cls ∈ lgood ∧ (∀ w ∈ (vx_atS RX8 ic cls ["java/lang/RuntimeException", "java/lang/Exception"]).filter goodWord, w ∈ lw_tbl) ∧ (∀ w ∈ (vx_atS RX8 ic cls ["java/lang/RuntimeException", "java/lang/Exception"]).filter (fun w => !goodWord w), w ∈ lw_tbl.filter xbad) ∧ ∀ w ∈ Cond.classLink RX8 ik cls :: Cond.initialized cls :: vx_atS RX8 ic cls ["java/lang/RuntimeException", "java/lang/Exception"], vx_ot w = true
theorem x_onT {w : Cond} (h : xbad w = true) : w.onTables = true := by
  cases w <;> first | rfl | (exact absurd h (by simp [xbad]))
theorem x_throw {Qc : Array Value → State → Outcome → State → Prop} {PX : String → MemT → Prop} {k : Nat} (C : CX p l s m args meth c E cc nL RX8) {cls text : String} {ik is ic : Nat} (hT : XTh ik ic cls) (hi : (is, text) ∈ lstr) (hp : PX cls μ)
    (d0 : decode cc pc = .ok (.new ik, 3)) (d3 : decode cc (pc + 3) = .ok (.dup, 1)) (d4 : decode cc (pc + 4) = .ok (.ldc is, 2)) (d6 : decode cc (pc + 6) = .ok (.invokespecial ic, 3)) (d9 : decode cc (pc + 9) = .ok (.athrow, 1))
    (hRf : 5 < R.frames) (hRl : (rest.map fun v => v.category).sum + 82 ≤ R.locals) (hRc : cells + 1 ≤ R.cells) (hRs : slots + 6 ≤ R.slots) (hc : cells + 1 ≤ k) (hs : slots + 6 ≤ 6 * k) :
    V p l e R s m args below meth c E nL cells slots (vx_MQ below Qc (XCe E PX s.heap.size) args s k (6 * k) (eA E s.heap.size)) pc lo rest μ := by
  intro H locs ls hP hS hl
  obtain ⟨C1, ⟨⟨z1, z2⟩, hst, hb, -⟩, hl9, htab⟩ := C
  obtain ⟨t1, t2, t3, t4, t5, t6⟩ := hT
  obtain ⟨sa, hsa⟩ := hst _ hi
  refine vx_throwS C1.1 C1.2.1 hl9 (names := ["java/lang/RuntimeException", "java/lang/Exception"]) C1.2.2.2.1 t1 (by decide +kernel) (C1.2.2.2.2.1 _ t2) (C1.2.2.2.2.1 _ t3) hsa ?_ t6 z1 z2 hS (hl.1.trans C1.2.2.1.symm) d0 d3 d4 d6 d9 (fun x hx => (htab x hx).elim) hRf (by simpa using hRl) hRc hRs C1.2.2.2.2.2.2.2.1 ?_ hS.2.2 hc hs
  · refine vx_hat (fun w hw => ?_) t5 (fun w hw => ?_)
    · exact C1.2.2.2.2.1 w (List.mem_filter.mpr ⟨t4 w hw, (List.mem_filter.mp hw).2⟩)
    · obtain ⟨w1, w2⟩ := List.mem_filter.mp hw
      exact va_Nw.use (x_onT w2) (hb w w1 w2)
  · intro t hal hz hk
    refine ⟨(cls, μ), hp, ⟨rfl, ?_⟩, Nat.le_trans hS.1 hz, fun q h1 h2 => ?_⟩
    · rw [wdP]
      exact hP.kept (fun j q hq => hk q.1 (vx_lt hP hq))
    · rw [hk q (Nat.lt_of_lt_of_le h1 hS.1)]
      exact hS.2.1 q h1 h2
def nsB : ByteArray := ⟨#[0x2a, 0x2b, 0xb7, 0x00, 0x0d, 0xb1]⟩
def XTn (ik ic : Nat) (cls : String) : Prop := Bundle.fit cls = true ∧ Cond.classLink RX8 ik cls ∈ lgood ∧ Cond.initialized cls ∈ lgood ∧ (∀ w ∈ (xx_at RX8 ic cls 13 nsB ["java/lang/RuntimeException", "java/lang/Exception"]).filter goodWord, w ∈ lw_tbl) ∧ (∀ w ∈ (xx_at RX8 ic cls 13 nsB ["java/lang/RuntimeException", "java/lang/Exception"]).filter (fun w => !goodWord w), w ∈ lw_tbl.filter xbad) ∧ ∀ w ∈ Cond.classLink RX8 ik cls :: Cond.initialized cls :: xx_at RX8 ic cls 13 nsB ["java/lang/RuntimeException", "java/lang/Exception"], vx_ot w = true
theorem x_throwN {Qc : Array Value → State → Outcome → State → Prop} {PX : String → MemT → Prop} {k : Nat} (C : CX p l s m args meth c E cc nL RX8) {cls text : String} {ik is ic : Nat} (hT : XTn ik ic cls) (hi : (is, text) ∈ lstr) (hp : PX cls μ)
    (d0 : decode cc pc = .ok (.new ik, 3)) (d3 : decode cc (pc + 3) = .ok (.dup, 1)) (d4 : decode cc (pc + 4) = .ok (.ldc is, 2)) (d6 : decode cc (pc + 6) = .ok (.invokespecial ic, 3)) (d9 : decode cc (pc + 9) = .ok (.athrow, 1))
    (hRf : 5 < R.frames) (hRl : (rest.map fun v => v.category).sum + 82 ≤ R.locals) (hRc : cells + 1 ≤ R.cells) (hRs : slots + 6 ≤ R.slots) (hc : cells + 1 ≤ k) (hs : slots + 6 ≤ 6 * k) :
    V p l e R s m args below meth c E nL cells slots (vx_MQ below Qc (XCe E PX s.heap.size) args s k (6 * k) (eA E s.heap.size)) pc lo rest μ := by
  intro H locs ls hP hS hl
  obtain ⟨C1, ⟨⟨z1, z2⟩, hst, hb, -⟩, hl9, htab⟩ := C
  obtain ⟨t1, t2, t3, t4, t5, t6⟩ := hT
  obtain ⟨sa, hsa⟩ := hst _ hi
  refine xx_throw (rx := nsB) (ix := 13) C1.1 C1.2.1 hl9 (by decide +kernel) (by decide +kernel) (by decide +kernel) (by decide +kernel) (names := ["java/lang/RuntimeException", "java/lang/Exception"]) C1.2.2.2.1 t1 (by decide +kernel) (C1.2.2.2.2.1 _ t2) (C1.2.2.2.2.1 _ t3) hsa ?_ t6 z1 z2 hS (hl.1.trans C1.2.2.1.symm) d0 d3 d4 d6 d9 (fun x hx => (htab x hx).elim) hRf (by simpa using hRl) hRc hRs C1.2.2.2.2.2.2.2.1 ?_ hS.2.2 hc hs
  · refine vx_hat (fun w hw => ?_) t5 (fun w hw => ?_)
    · exact C1.2.2.2.2.1 w (List.mem_filter.mpr ⟨t4 w hw, (List.mem_filter.mp hw).2⟩)
    · obtain ⟨w1, w2⟩ := List.mem_filter.mp hw
      exact va_Nw.use (x_onT w2) (hb w w1 w2)
  · intro t hal hz hk
    refine ⟨(cls, μ), hp, ⟨rfl, ?_⟩, Nat.le_trans hS.1 hz, fun q h1 h2 => ?_⟩
    · rw [wdP]
      exact hP.kept (fun j q hq => hk q.1 (vx_lt hP hq))
    · rw [hk q (Nat.lt_of_lt_of_le h1 hS.1)]
      exact hS.2.1 q h1 h2
theorem PcX_at (C : CX p l s m args meth c E cc nL own) {H : Heap} {locs : List Loc} (hP : va_P E.1 vwCl (eWl E μ) H) (hS : va_S (eA E s.heap.size) s.heap H locs) (As : List Value) : ∀ U : State, U.heap = H → s.WarmedH U.vm → PcX E As μ H.size As.toArray U := fun U hU hW => ⟨rfl, by rw [hU], ⟨by rw [hU]; exact hP, va_K.moved hW.alike C.1.2.2.2.2.2.1, C.1.2.2.2.2.2.2.1, va_Nw.warmM hW C.1.2.2.2.2.2.2.2.2⟩, eX_at C.2.1 hS hU hW⟩
/-- a call of a method that may throw; what it throws goes on to the caller -/
theorem x_callVv {Qc : Array Value → State → Outcome → State → Prop} {PX PX' : String → MemT → Prop} {kk9 : Nat} (C : CX p l s m args meth c E cc nL own) {y : MethodName} {bytes : ByteArray} {maxL : Nat} {ret : Option FieldType} {rm : Room} {n index ci N : Nat} {Cn : String} {T : u_T} {P : MemT → Prop} (k : Nat) (As : List Value) (hk : k < 77) (hd : mkd k = 0) (hci : eCi k = ci) (hc : vwCl[ci]? = some (Cn, T, N)) (hM : MXv l E y bytes maxL ret rm (.ref (eAd E k) :: As) μ P PX' 1) (hG : GoodIn lgood (wsV own index Cn y (wsM y bytes maxL ret))) (hrc : rm.cells = 1) (hrs : rm.slots = 6) (hdd : y.cls = Cn ∧ y.cls ≠ "java/lang/invoke/MethodHandle" ∧ y.cls ≠ "java/lang/invoke/VarHandle" ∧ (parseMethodDescriptor y.desc).map (fun d => d.parameters.length) = some n) (hR : rm.frames + 1 ≤ R.frames ∧ 8 + (maxL + 11) + rm.locals ≤ R.locals) (hn : As.length = n) {st0 : List Value} (hst : st0 = As.reverse ++ .ref (eAd E k) :: rest) (hW : (rest.map fun v => v.category).sum ≤ 8) (hf : cells + 1 ≤ R.cells ∧ slots + 6 ≤ R.slots) (hdg : decode cc pc = .ok (.invokevirtual index, 3)) (hk9 : cells + 1 ≤ kk9 ∧ slots + 6 ≤ 6 * kk9)
    (kx : ∀ (X : String) (μ2 : MemT), PX' X μ2 → PX X μ2)
    (kk : ∀ (μ2 : MemT), P μ2 → V p l e R s m args below meth c E nL (cells + 1) (slots + 6) (vx_MQ below Qc (XCe E PX s.heap.size) args s kk9 (6 * kk9) (eA E s.heap.size)) (pc + 3) lo rest μ2) : V p l e R s m args below meth c E nL cells slots (vx_MQ below Qc (XCe E PX s.heap.size) args s kk9 (6 * kk9) (eA E s.heap.size)) pc lo st0 μ := by
  intro H locs ls hP hS hl
  have hFc : ∀ q, eA E H.size q → eA E s.heap.size q := eA_le hS.1
  refine vx_callv (vx_runV (As := As) (rest := rest) ⟨C.1.1, C.1.2.1, C.1.2.2.1, C.1.2.2.2.1, C.1.2.2.2.2.1⟩ (hM H.size) (cwV n C.1.2.2.2.2.1 hG rfl hrc hrs hdd hR) ⟨PcX_blind E _ μ H.size, va_recv C.1.2.2.2.2.2.1 hP (ci := ci) (q0 := k) hc ((eWl_get E μ hk).trans (by rw [eEn_O hd, hci])), PcX_at C hP hS (.ref (eAd E k) :: As)⟩ rfl hn hl.1 hst (lv_room hW) hdg hf) hS (fun q _ h => hFc q h) hFc (fun q _ h => hFc q h) (fun X ce q9 u t H1 locs1 ht hvm hp hB hz1 hk1 hS1 hce hcv hcl => ?_) (fun μ2 t H1 locs1 ht hvm hp hB hz1 hk1 hS1 => ?_)
  · obtain ⟨rfl, hB⟩ := hB
    rw [wdP, ht] at hB
    exact vx_out (fun x hx => (C.2.2.2 x hx).elim) C.1.2.2.2.2.2.2.2.1 hce hcv hcl (fun t2 ht2 hal => ⟨u, kx _ _ hp, ⟨rfl, by rw [wdP, ht2]; exact hB⟩, hS1.F ht2⟩) hS1.2.2 hk9.1 hk9.2
  · rw [wdP, ht] at hB
    exact kk μ2 hp H1 locs1 ls hB hS1 hl
end XROWS
theorem xt_iae : XTh 75 79 "java/lang/IllegalArgumentException" := ⟨by decide +kernel, List.mem_filter.mpr ⟨by decide +kernel, by decide +kernel⟩, List.mem_filter.mpr ⟨by decide +kernel, by decide +kernel⟩, by decide +kernel, by decide +kernel, by decide +kernel⟩
theorem xt_uoe : XTh 86 90 "java/lang/UnsupportedOperationException" := ⟨by decide +kernel, List.mem_filter.mpr ⟨by decide +kernel, by decide +kernel⟩, List.mem_filter.mpr ⟨by decide +kernel, by decide +kernel⟩, by decide +kernel, by decide +kernel, by decide +kernel⟩
theorem xt_ioobe : XTh 103 107 "java/lang/IndexOutOfBoundsException" := ⟨by decide +kernel, List.mem_filter.mpr ⟨by decide +kernel, by decide +kernel⟩, List.mem_filter.mpr ⟨by decide +kernel, by decide +kernel⟩, by decide +kernel, by decide +kernel, by decide +kernel⟩
theorem xt_ae : XTh 155 159 "java/lang/ArithmeticException" := ⟨by decide +kernel, List.mem_filter.mpr ⟨by decide +kernel, by decide +kernel⟩, List.mem_filter.mpr ⟨by decide +kernel, by decide +kernel⟩, by decide +kernel, by decide +kernel, by decide +kernel⟩
theorem xt_nsee : XTn 211 215 "java/util/NoSuchElementException" := ⟨by decide +kernel, List.mem_filter.mpr ⟨by decide +kernel, by decide +kernel⟩, List.mem_filter.mpr ⟨by decide +kernel, by decide +kernel⟩, by decide +kernel, by decide +kernel, by decide +kernel⟩
