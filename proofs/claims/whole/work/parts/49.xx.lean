/-! Throwing a class whose constructor calls the next one by another entry than 7 (NoSuchElementException: 13), where launches keep no stack traces. -/
def xx_at (own : String) (ic : Nat) (X : String) (ix : Nat) (rx : ByteArray) (names : List String) : List Cond := (Bundle.ownAtomsX own ic X ix rx names).filter vx_no
section XQ
variable {p : Program} {l : Launch} {e : Env} {R : Room} {s : State} {m₀ : MethodId} {args : Array Value} {below : List Frame} {meth : Method} {c : Code} {W : State} {cells slots : Nat} {T : ThrowableC} {Z₀ : Init0T} {q : ClassId} {k : Class} {cls : String}
/-- the words about the class that is thrown, and Throwable's two statics -/
def xq_ws (cls : String) : List Cond :=
  [Bundle.tFill0, Bundle.tFill].map (fun y => .selects cls y y) ++
  [("cause", "Ljava/lang/Throwable;"), ("stackTrace", Bundle.steD), ("suppressedExceptions", Bundle.listD), ("detailMessage", "Ljava/lang/String;"), ("backtrace", "Ljava/lang/Object;")].map (fun f => .lays cls Bundle.tN f.1 f.2) ++
  [("UNASSIGNED_STACK", Bundle.steD), ("SUPPRESSED_SENTINEL", Bundle.listD)].map (fun f => .isRef (.static Bundle.tN f.1 f.2)) ++
  [.fieldLink Bundle.tN 198 Bundle.tN "backtrace" "Ljava/lang/Object;", .lays Bundle.tN Bundle.tN "backtrace" "Ljava/lang/Object;"]
theorem xq_ws_in {own : String} {ic ix : Nat} {rx : ByteArray} {names : List String} : ∀ w ∈ xq_ws cls, w ∈ Bundle.ownAtomsX own ic cls ix rx names := by
  intro w hw
  simp only [xq_ws, List.map_cons, List.map_nil, List.mem_append, List.mem_cons, List.not_mem_nil, or_false] at hw
  simp only [Bundle.ownAtomsX, List.mem_append, List.mem_cons, List.not_mem_nil, or_false]
  rcases hw with (((h | h) | (h | h | h | h | h)) | (h | h)) | (h | h) <;> simp [h]
/-- a method of Throwable's that the class leaves as it is, is the one that is picked -/
theorem xq_pick {y : MethodName} {mm : MethodId} (ha : l.admits e) (hq : s.vm.findClass cls = some q) (hn : s.methodNamed? y = some mm) (hf : s.methodFound? y.cls y.name y.desc = some mm) (hw : (Cond.selects cls y y).before args s = true) :
    selectMethod e.platform s.vm q mm = .method mm := by
  obtain ⟨q', r, m', h1, h2, h3, h4, -⟩ := Cond.selects_spec hw
  rw [hq] at h1
  rw [hf] at h2
  rw [hn] at h3
  cases h1
  cases h2
  cases h3
  exact (Launch.admits_selectMethod ha _ _ _).trans h4
/-- the class that is thrown, as Throwable's constructor needs it -/
def xq_K (T : ThrowableC) (pl : Platform) (s : State) (q : ClassId) (k : Class) : Prop :=
  (selectMethod pl s.vm q T.fill0 = .method T.fill0 ∧ selectMethod pl s.vm q T.fill = .method T.fill) ∧
  (∀ f ∈ [T.fCause, T.fStack, T.fSupp, T.fMsg], k.instanceTypes[f.slot]? = some f.type) ∧
  ∃ B : BackC, B.Links T pl s ∧ k.instanceTypes[B.fBack.slot]? = some (.object "java/lang/Object") ∧ ∀ f ∈ [T.fCause, T.fStack, T.fSupp], f.slot ≠ B.fBack.slot
theorem xq_K_of (ha : l.admits e) (hpl : e.platform.magicAccessors = ({} : Platform).magicAccessors) (L : T.Links e.platform s) (Y : Bundle.Ties T Z₀ s) (hw : ∀ w ∈ xq_ws cls, w.before args s = true)
    (hq : s.vm.findClass cls = some q) (hk : s.vm.classes[q]? = some k) : xq_K T e.platform s q k := by
  have laid : ∀ {n d : String} {i : Nat} {f : Field}, s.fieldFound? Bundle.tN n d = some (T.cT, T.kT, i, f) → Cond.lays cls Bundle.tN n d ∈ xq_ws cls →
      k.instanceTypes[f.slot]? = some f.type ∧ ∃ x, Jmm.declares? s.vm f.slot (q + 1) q = some x ∧ x.2.name = f.name := fun h1 h2 => Cond.laysAt hq hk h1 (hw _ h2)
  obtain ⟨iM, hM⟩ := Y.msg
  have tC := laid Y.cause (by simp [xq_ws])
  have tS := laid Y.stack (by simp [xq_ws])
  have tP := laid Y.supp (by simp [xq_ws])
  have tM := laid hM (by simp [xq_ws])
  obtain ⟨ci, i, f, b1, b2, b3, b4, -, bn, bt, bf⟩ := Cond.ownField (t := .object "java/lang/Object") Y.found L.cls (by decide +kernel)
    (hw (.fieldLink Bundle.tN 198 Bundle.tN "backtrace" "Ljava/lang/Object;") (by simp [xq_ws])) (hw (.lays Bundle.tN Bundle.tN "backtrace" "Ljava/lang/Object;") (by simp [xq_ws])) e.platform hpl
  obtain ⟨tB, xB, dB, nB⟩ := laid bf (by simp [xq_ws])
  have apart : ∀ {g : Field}, (∃ x, Jmm.declares? s.vm g.slot (q + 1) q = some x ∧ x.2.name = g.name) → g.name ≠ "backtrace" → g.slot ≠ f.slot :=
    fun ⟨_, h1, h2⟩ h3 => Cond.laysApart h1 dB h2 nB (by rw [bn]; exact h3)
  refine ⟨⟨xq_pick ha hq Y.fill0 (State.methodFound?_of_named Y.fill0 (by decide)) (hw _ (by simp [xq_ws])), xq_pick ha hq Y.fill (State.methodFound?_of_named Y.fill (by decide)) (hw _ (by simp [xq_ws]))⟩, ?_,
    ⟨ci, i, f⟩, ⟨b1, b2, b3, b4⟩, by rw [← bt]; exact tB, ?_⟩
  · intro g hg
    simp only [List.mem_cons, List.not_mem_nil, or_false] at hg
    rcases hg with rfl | rfl | rfl | rfl
    · exact tC.1
    · exact tS.1
    · exact tP.1
    · exact tM.1
  · intro g hg
    simp only [List.mem_cons, List.not_mem_nil, or_false] at hg
    rcases hg with rfl | rfl | rfl
    · exact apart tC.2 (by rw [Y.causeName]; decide)
    · exact apart tS.2 (by rw [Y.stackName]; decide)
    · exact apart tP.2 (by rw [Y.suppName]; decide)
/-- no trace is there yet when Throwable looks for one -/
theorem xq_skip {pl : Platform} (h : xq_K T pl s q k) (a : Addr) (u v : RefV) (t : ThreadId) : SkipFacts T pl s (fun x => x) u ((preparedCellV T.toThrowableT (freshCell q k) a u v).withEntry t) := by
  obtain ⟨-, -, B, hB, ht, hne⟩ := h
  have h1 := hne T.fCause (by simp)
  have h2 := hne T.fStack (by simp)
  have h3 := hne T.fSupp (by simp)
  exact ⟨B, hB, by simp [preparedCellV, Cell.setSlot, Cell.withEntry, Array.getElem?_setIfInBounds, h1, h2, h3, ht, defaultValue], fun _ _ => rfl⟩
/-- Throwable's statics, where nothing that was there has been written -/
theorem xq_stat (X : Stand p l e R s m₀ args below meth c W [] cells slots) {pl : Platform} (L : T.Links pl s) (Y : Bundle.Ties T Z₀ s) (hw : ∀ w ∈ xq_ws cls, w.before args s = true) :
    T.aS < s.heap.size ∧ ∃ (x : Cell) (u v : RefV), W.heap[T.aS]? = some x ∧ x.vm ≠ .unknown ∧ x.slots[T.fUnassigned.slot]? = some u.v ∧ x.slots[T.fSentinel.slot]? = some v.v := by
  obtain ⟨x, hx, hi⟩ := Y.statics
  obtain ⟨u, hu⟩ := Cond.staticRefV Y.unassigned L.unassignedStatic L.statics hx hi (hw _ (by simp [xq_ws]))
  obtain ⟨v, hv⟩ := Cond.staticRefV Y.sentinel L.sentinelStatic L.statics hx hi (hw _ (by simp [xq_ws]))
  obtain ⟨y, hy, hyx, -, hs⟩ := X.same.2.2.2.2.2 T.aS x hx
  have hvm : y.vm = x.vm := by rw [hyx]
  refine ⟨(Array.getElem?_eq_some_iff.mp hx).1, y, u, v, hy, fun hn => ?_, (hs _ List.not_mem_nil).trans hu, (hs _ List.not_mem_nil).trans hv⟩
  rw [← hvm, hn] at hi
  exact Bool.noConfusion hi
/-- 'invokespecial; athrow' of a fresh one, its text above it: it is thrown, and nothing that was there has changed -/
theorem xq_throw (X : Stand p l e R s m₀ args below meth c W [] cells slots) (hexec : p.tables.exec = Jvm.exec) (htr : e.platform.stackTraces = false) (hlocks : meth.locks = false) {own : String} {names : List String} {ic ix : Nat} {rx : ByteArray}
    (x0 : decode rx 0 = .ok (.aload_n 0, 1)) (x1 : decode rx 1 = .ok (.aload_n 1, 1)) (x2 : decode rx 2 = .ok (.invokespecial ix, 3)) (x5 : decode rx 5 = .ok (.return_, 1))
    (hown : s.vm.findClass own = some m₀.cls) (hcls : Bundle.fit cls = true) (hnames : ∀ n ∈ names, Bundle.fit n = true) (hw : ∀ w ∈ Bundle.ownAtomsX own ic cls ix rx names, w.before args s = true)
    (hq : s.vm.findClass cls = some q) (hk : s.vm.classes[q]? = some k) {a : Addr} (hnew : s.heap.size ≤ a) (hcell : W.heap[a]? = some (freshCell q k)) {msg : Value} (hmsg : msg.isRef = true)
    {g : JFrame} (hg : g.method = m₀ ∧ g.locals.size = c.maxLocals ∧ g.locked = none ∧ g.entered = []) {rest : List Value} (hstack : g.stack = msg :: .ref a :: .ref a :: rest)
    (d6 : decode c.code g.pc = .ok (.invokespecial ic, 3)) (d9 : decode c.code (g.pc + 3) = .ok (.athrow, 1)) (hout : ∀ x ∈ c.exceptionTable.toList, covers x (g.pc + 3) = false)
    (hRf : names.length + 3 < R.frames) (hRl : 2 * g.monitorRoom + ((Value.ref a :: rest).map fun v => v.category).sum + (13 * (names.length + 1) + 42) ≤ R.locals) :
    ∃ U : State, Steps p.tables e below (W.setTop g) U ∧ U.status = .running ∧ Ended U below (.threw a) ∧ s.WarmedH U.vm ∧ s.sameButNew ({ U with vm := s.vm } : State) [] cells slots ∧
      ∃ x, U.heap[a]? = some x ∧ s.vm.findClass cls = some x.cls ∧ x.vm = .none := by
  obtain ⟨hgm, hgl, hgk, hge⟩ := hg
  have hpl : e.platform.magicAccessors = ({} : Platform).magicAccessors := by rw [X.admits.platform]
  have hin : ∀ w, w ∈ Bundle.throwableAtoms ++ Bundle.throwableSAtoms ++ Bundle.chainSAtomsX cls ix rx names → w.before args s = true := fun w h => hw w (List.mem_append_left _ h)
  have hws : ∀ w ∈ xq_ws cls, w.before args s = true := fun w h => hw w (xq_ws_in w h)
  -- Throwable, its constructor with a text, the constructors between
  obtain ⟨T, Z₀, L, -, Y⟩ := ThrowableC.of_atoms (pl := e.platform) (by rw [X.admits.platform]) (by rw [X.admits.platform]) hpl fun w h => hin w (List.mem_append_left _ (List.mem_append_left _ h))
  obtain ⟨Z, M, LZ, LM, htop⟩ := Init0T.ofS_atoms hpl L Y fun w h => hin w (List.mem_append_left _ (List.mem_append_right _ h))
  have hch : ∀ w ∈ Bundle.chainSAtomsX cls ix rx names, w.before args s = true := fun w h => hin w (List.mem_append_right _ h)
  obtain ⟨A, As, hlen, hA, hAs, hAm, hup, hups⟩ := Bundle.chainSX hpl htop x0 x1 x2 x5 names cls hcls hnames hch
  cases hq.symm.trans (findClass_of_methodNamed hAm)
  have hord : k.kind = .ordinary := by
    obtain ⟨q', k', h1, h2, h3, -⟩ := Cond.instantiable_spec (hw (.instantiable cls 6) (by simp [Bundle.ownAtomsX]))
    rw [hq] at h1
    cases h1
    rw [hk] at h2
    cases h2
    exact h3
  have K := xq_K_of X.admits hpl L Y hws hq hk
  obtain ⟨hlt, x, u, v, hx, hxk, hu, hv⟩ := xq_stat X L Y hws
  have tk : ∀ {f : Field} {y : Value}, f ∈ [T.fCause, T.fStack, T.fSupp, T.fMsg] → fits f.type y = true → Takes s (freshCell A.m.cls k) f y := fun h1 h2 => Takes.of_laid hk hord (K.2.1 _ h1) h2
  -- the call, the constructors, the throw
  have hhead : ∀ w ∈ [Cond.instanceMethod (Bundle.initS cls), .code (Bundle.initS cls) rx 2 none], w.before args s = true := by
    intro w h
    refine hch w ?_
    simp only [List.mem_cons, List.not_mem_nil, or_false] at h
    rcases h with rfl | rfl <;> cases names <;> simp [Bundle.chainSAtomsX, Bundle.passSAtoms]
  obtain ⟨mm, -, -, -, vm₁, hmm, -, -, -, -, -, -, -, hW₁, go₁⟩ := Steps.initColdS X.here hexec X.warmed hpl hown (t := Bundle.initS cls) rfl rfl (Bundle.fit_spec hcls).2 (bytes := rx) (maxL := 2)
    (hw (.methodLink own ic (Bundle.initS cls)) (by simp [Bundle.ownAtomsX])) (hhead _ (by simp)) (hhead _ (by simp)) hgm hstack d6
  cases hmm.symm.trans hAm
  obtain ⟨vm₂, X₂, go₂⟩ := (X.noted hW₁).ctorMessageOffV hexec (g := { g with stack := .ref a :: rest }) hgm hgl T L Z LZ M LM (A :: As) (List.forall_mem_cons.mpr ⟨hA, hAs⟩) ⟨hup, hups⟩ (u0 := u) (sen := v) hmsg
    hcell (fun _ h => by cases h) (fun h => by cases h) rfl rfl K.1.1 K.1.2 hx (Nat.ne_of_lt (Nat.lt_of_lt_of_le hlt hnew)) hxk hu hv
    (tk (by simp) (by rw [Y.causeType]; rfl)) (tk (by simp) (by rw [Y.stackType]; exact fits_refV_array _ u)) (tk (by simp) (by rw [Y.suppType]; exact fits_refV_object _ v)) (tk (by simp) (by rw [Y.msgType]; exact fits_refV_object _ ⟨msg, hmsg⟩))
    Y.objLocals (xq_skip K a u v _) htr [] d6 (by simp only [List.length_cons, hlen]; omega) (by simp only [List.length_cons, hlen]; exact hRl)
  obtain ⟨go₃, hrun, hend, hW₃, hsame⟩ := X₂.athrowLeaves hexec (g := { g with stack := .ref a :: rest, pc := g.pc + 3 }) hgm hgk hge hout rfl d9 hlocks
  refine ⟨_, go₁ _ fun acts => ?_, hrun, hend, hW₃, hsame.weaken (fun y hy hy' => absurd hy' (Nat.not_lt.mpr ?_)) (Nat.le_refl _) (Nat.le_refl _), _, heapAt_setCell_self (s := (W.setVm vm₁).setVm vm₂) _ (Array.getElem?_eq_some_iff.mp hcell).1, hq, rfl⟩
  · rw [doInvoke_state]
    exact go₂ _ go₃
  · simp only [List.nil_append, List.mem_cons, List.not_mem_nil, or_false] at hy
    have hb : y.base = a := by rcases hy with h | h | h | h | h <;> rw [h]
    rw [hb]
    exact hnew
end XQ
section XXthrow
variable {p : Program} {l : Launch} {e : Env} {R : Room} {s : State} {m : MethodId} {args : Array Value} {below : List Frame} {meth : Method} {c : Code} {H : Heap} {locs : List Loc} {cells slots : Nat} {Q : State → Prop}
variable {mc ms : Nat} {free : Addr → Prop} {A0 A1 : Nat → Prop} {H0 : Heap} {a : Array Value} {ls : Array Slot} {st0 rest : List Value}
variable {Qc : Array Value → State → Outcome → State → Prop} {XC : String → State → State → Prop}
/-- 'throw new E("text")': new; dup; ldc; invokespecial; athrow -/
theorem xx_throw {cc : ByteArray} {pc : Nat} (hexec : p.tables.exec = Jvm.exec) (hb : c.code = cc) (hl : l.stackTraces = false) {own cls text : String} {names : List String} {ik is ic ix mc ms sa : Nat} {rx : ByteArray} {A : Nat → Prop} (x0 : decode rx 0 = .ok (.aload_n 0, 1)) (x1 : decode rx 1 = .ok (.aload_n 1, 1)) (x2 : decode rx 2 = .ok (.invokespecial ix, 3)) (x5 : decode rx 5 = .ok (.return_, 1))
    (hown : s.vm.findClass own = some m.cls) (hcls : Bundle.fit cls = true) (hnames : ∀ n ∈ names, Bundle.fit n = true)
    (hk : (Cond.classLink own ik cls).before args s = true) (hini : (Cond.initialized cls).before args s = true) (hstr : vk_R own is text sa s) (hat : ∀ w ∈ xx_at own ic cls ix rx names, w.before args s = true)
    (hgood : ∀ w ∈ Cond.classLink own ik cls :: Cond.initialized cls :: xx_at own ic cls ix rx names, vx_ot w = true)
    (hU : vx_Zq Bundle.tN "UNASSIGNED_STACK" Bundle.steD A s s.heap) (hN : vx_Zq Bundle.tN "SUPPRESSED_SENTINEL" Bundle.listD A s s.heap) (hS : va_S A s.heap H locs) (hsize : ls.size = c.maxLocals)
    (d0 : decode cc pc = .ok (.new ik, 3)) (d3 : decode cc (pc + 3) = .ok (.dup, 1)) (d4 : decode cc (pc + 4) = .ok (.ldc is, 2)) (d6 : decode cc (pc + 6) = .ok (.invokespecial ic, 3)) (d9 : decode cc (pc + 9) = .ok (.athrow, 1))
    (hout : ∀ x ∈ c.exceptionTable.toList, covers x (pc + 9) = false)
    (hRframes : names.length + 3 < R.frames) (hRlocals : (rest.map fun v => v.category).sum + (13 * (names.length + 1) + 43) ≤ R.locals) (hRcells : cells + 1 ≤ R.cells) (hRslots : slots + 6 ≤ R.slots) (hlocks : meth.locks = false)
    (hx : ∀ t : State, s.vm.Alike t.vm → H.size ≤ t.heap.size → (∀ q : Nat, q < H.size → t.heap[q]? = H[q]?) → XC cls s t)
    (hf : ∀ z ∈ locs, free z.base) (hc : cells + 1 ≤ mc) (hs : slots + 6 ≤ ms) :
    W p l e R s m args below meth c H locs cells slots (vx_MQ below Qc XC args s mc ms free) (F0 m pc ls rest) := by
  intro T hT X
  have htr : e.platform.stackTraces = false := (show e.platform.stackTraces = l.stackTraces by rw [X.admits.platform]).trans hl
  have Y := vx_rebase X (R' := { frames := R.frames, locals := R.locals, cells := 1, slots := 6 }) (Nat.le_refl _) (Nat.le_refl _) hRcells hRslots
  obtain ⟨s', hA⟩ : ∃ z, z = (T.setVm s.vm).setFrames (.invoking m args :: below) := ⟨_, rfl⟩
  rw [← hA] at Y
  have hvm : s'.vm = s.vm := by rw [hA]; rfl
  have hhp : s'.heap = H := by rw [hA]; exact hT
  have hW0 : s.WarmedH s'.vm := by rw [hvm]; exact State.WarmedH.refl s
  have hat' : ∀ w ∈ xx_at own ic cls ix rx names, w.before args s' = true := fun w hw => vx_ot_at hW0 hvm.symm (hgood w (List.mem_cons_of_mem _ (List.mem_cons_of_mem _ hw))) (hat w hw)
  have hk' : (Cond.classLink own ik cls).before args s' = true := vx_ot_at hW0 hvm.symm (hgood _ List.mem_cons_self) hk
  have hini' : (Cond.initialized cls).before args s' = true := vx_ot_at hW0 hvm.symm (hgood _ (List.mem_cons_of_mem _ List.mem_cons_self)) hini
  have hU' : vx_Zq Bundle.tN "UNASSIGNED_STACK" Bundle.steD A s' s'.heap := by rw [hhp]; exact vx_Zq.moved hW0.alike (hU.kept hS.2.1)
  have hN' : vx_Zq Bundle.tN "SUPPRESSED_SENTINEL" Bundle.listD A s' s'.heap := by rw [hhp]; exact vx_Zq.moved hW0.alike (hN.kept hS.2.1)
  have h : ∀ w ∈ Bundle.ownAtomsX own ic cls ix rx names, w.before args s' = true := vx_own hat' (vx_isRefq hU'.1) (vx_isRefq hN'.1) hU'.2.word hN'.2.word
  have hown' : s'.vm.findClass own = some m.cls := by rw [hvm]; exact hown
  have hins : (Cond.instantiable cls 6).before args s' = true := h _ (by simp [Bundle.ownAtomsX])
  obtain ⟨vm₁, cX, kX, hfX, hkX, -, -, X₁, st1⟩ := Y.newCold hexec (own := own) (C := cls) (index := ik) (n := 6) hown' hk' hins hini'
    (g := F0 m pc ls rest) rfl (by rw [hb]; exact d0) (Nat.le_refl _) (Nat.le_refl _)
  generalize hT1 : (T.setVm vm₁).pushCell { cls := cX, slots := kX.instanceTypes.map defaultValue, vm := .none } = T1 at X₁ st1
  have hcat : (Value.ref T.heap.size).category = 1 := rfl
  have hcellA : T1.heap[T.heap.size]? = some (freshCell cX kX) := by rw [← hT1]; exact State.heap_pushCell_size _ _
  have d3' : decode c.code (pc + 3) = .ok (.dup, 1) := by rw [hb]; exact d3
  have d4' : decode c.code (pc + 4) = .ok (.ldc is, 2) := by rw [hb]; exact d4
  have hstr' : vk_R own is text sa s' := vk_R.warm hW0 hstr
  obtain ⟨U, hsteps, hrun, hend, hW, hsame, ce, hce, hOc, hOv⟩ := xq_throw X₁ hexec htr hlocks x0 x1 x2 x5 hown' hcls hnames h hfX hkX (by rw [hhp, hT]; exact Nat.le_refl _) hcellA (msg := .ref sa) rfl
    (g := { method := m, pc := pc + 6, locals := ls, stack := .ref sa :: .ref T.heap.size :: .ref T.heap.size :: rest, locked := none }) ⟨rfl, hsize, rfl, rfl⟩ rfl
    (by rw [hb]; exact d6) (by rw [hb]; exact d9) hout hRframes (by simp only [List.map_cons, List.sum_cons, hcat]; omega)
  obtain ⟨f1, f2⟩ := vx_frame hsame
  rw [hhp] at f1 f2
  have hWs : s.WarmedH U.vm := State.WarmedH.trans hW0 hW
  have hcl : s.vm.findClass cls = some ce.cls := by
    have h9 := hOc
    rw [hvm] at h9
    exact h9
  have hall : s.sameButNew ({ U with vm := s.vm } : State) locs mc ms := by
    subst hA
    obtain ⟨e1, e2⟩ := hsame
    rw [State.setFrames_setFrames] at e1
    have h2 : (T.setVm s.vm).sameButNew ({ U with vm := s.vm } : State) [] (0 + 1) (0 + 6) := ⟨e1, e2⟩
    have h3 := X.same.trans h2
    rw [List.append_nil] at h3
    exact h3.mono hc hs
  refine ⟨U, ?_, .threw T.heap.size, hrun, hend, Or.inr ⟨T.heap.size, rfl, cls, ce, locs, hx U hWs.alike f1 (fun q hq => f2 q hq (fun z hz => nomatch hz)), hce, hOv, hcl, hWs, hall, hf⟩⟩
  refine st1 _ ?_
  show Steps p.tables e below (T1.setTop { method := m, pc := pc + 3, locals := ls, stack := .ref T.heap.size :: rest, locked := none }) _
  jvm_step X₁.here [X₁.here.top, hexec, d3', Value.category]
  exact X₁.ldcString hexec (own := own) (text := text) (index := is) (a := sa) hown' hstr'.1 hstr'.2
    (g := { method := m, pc := pc + 4, locals := ls, stack := .ref T.heap.size :: .ref T.heap.size :: rest, locked := none }) rfl d4' _ hsteps
end XXthrow
