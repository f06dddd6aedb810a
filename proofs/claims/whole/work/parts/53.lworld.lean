/-! The law's own small methods: a call within a try, its catches. -/
def CH (p : Program) (l : Launch) (s : State) (m : MethodId) (args : Array Value) (meth : Method) (c : Code) (E : EvT) (cc : ByteArray) (nL : Nat) (own : String) (hh : List (Nat × Nat × Nat × Nat)) : Prop := Cx p s m args meth c E cc nL own ∧ eX E s ∧ l.stackTraces = false ∧ c.exceptionTable.toList = tableOf hh
def wsH (y : MethodName) (bytes : ByteArray) (nL : Nat) (ret : Option FieldType) (hh : List (Nat × Nat × Nat × Nat)) : List Cond := Cond.codeWith y bytes nL ret hh :: lgood
def MLi (l : Launch) (E : EvT) (y : MethodName) (bytes : ByteArray) (nL : Nat) (ret : Option FieldType) (hh : List (Nat × Nat × Nat × Nat)) (rm : Room) (As : List Value) (μ : MemT) (P : Int32 → MemT → Prop) (k : Nat) : Prop := ∀ sz, vx_Met l y (wsH y bytes nL ret hh) rm (PcX E As μ sz) (va_Qi P (wdP E) (eA E sz)) (XCe E (fun _ _ => False) sz) k (6 * k) (eA E sz)
section LROWS
variable {p : Program} {l : Launch} {e : Env} {R : Room} {s : State} {m : MethodId} {args : Array Value} {below : List Frame} {meth : Method} {c : Code} {E : EvT} {cc : ByteArray} {nL : Nat} {own : String} {cells slots : Nat} {Q : State → Prop} {pc : Nat} {lo lo' : List (Nat × Value)} {rest : List Value} {μ : MemT} {hh : List (Nat × Nat × Nat × Nat)}
theorem ml_entry (hl9 : l.stackTraces = false) {y : MethodName} {bytes : ByteArray} {ret : Option FieldType} {rm : Room} {As : List Value} {P : Int32 → MemT → Prop} {k : Nat} (hy : plainName y.cls = true) (hlen : (lg_sl As).length ≤ nL)
    (body : ∀ (p : Program) (e : Env) (s : State) (m : MethodId) (below : List Frame) (meth : Method) (c : Code), CH p l s m As.toArray meth c E bytes nL y.cls hh → meth.sig.returnType = ret → V p l e rm s m As.toArray below meth c E nL 0 0 (QXi below E P (fun _ _ => False) As.toArray s k) 0 (lv_args 0 As) [] μ) : MLi l E y bytes nL ret hh rm As μ P k := by
  intro sz
  refine vx_ofWH (cc := bytes) (maxL := nL) (ret := ret) (hh := hh) hy rfl ?_
  intro p e s m args below meth c s₁ B hml hv
  obtain ⟨rfl, hsz, ⟨hP, hK, hI, hN⟩, hX⟩ := hv
  subst hsz
  have hts := atoms_spec (ws := wsH y bytes nL ret hh) B.pre
  have hl := lv_entry As (n := nL) hlen
  rw [lg_entry_eq]
  exact body p e s m below meth c ⟨⟨B.exec, B.bytes, hml, findClass_of_methodNamed B.named, fun w hw => hts w (List.mem_cons_of_mem _ hw), hK, hI, B.notSynchronized, hN⟩, hX, hl9, vx_table (x := y) B (hts _ List.mem_cons_self)⟩ B.returns s.heap [] _ hP va_S.rf hl
/-- X is thrown at q, over the frame at pc -/
def VX (p : Program) (l : Launch) (e : Env) (R : Room) (s : State) (m : MethodId) (args : Array Value) (below : List Frame) (meth : Method) (c : Code) (E : EvT) (nL : Nat) (cells slots : Nat) (Q : State → Prop) (pc : Nat) (lo : List (Nat × Value)) (rest : List Value) (X : String) (μ : MemT) : Prop :=
  ∀ (H : Heap) (locs : List Loc) (ls : Array Slot) (q : Nat) (ce : Cell), va_P E.1 vwCl (eWl E μ) H → va_S (eA E s.heap.size) s.heap H locs → lv_has ls nL lo → H[q]? = some ce → ce.vm = .none → s.vm.findClass X = some ce.cls → vx_W p l e R s m args below meth c H locs cells slots Q (F0 m pc ls rest) q
theorem y_catch (C : CH p l s m args meth c E cc nL own hh) {X name : String} (hp : List (Nat × Nat × Nat × Nat)) (h4 : Nat × Nat × Nat × Nat) (hs : List (Nat × Nat × Nat × Nat)) (hsp : hh = hp ++ h4 :: hs) (hpass : ∀ z ∈ hp, ∃ nm, Cond.classLink own z.2.2.2 nm ∈ lgood ∧ z.2.2.2 ≠ 0 ∧ (X, nm) ∈ lnc) (hcov : h4.1 ≤ pc ∧ pc < h4.2.1) (h0 : h4.2.2.2 ≠ 0) (hlink : Cond.classLink own h4.2.2.2 name ∈ lgood) (hcast : Cond.castable X name ∈ lw_tbl)
    (kk : ∀ q : Nat, V p l e R s m args below meth c E nL cells slots Q h4.2.2.1 lo [.ref q] μ) : VX p l e R s m args below meth c E nL cells slots Q pc lo rest X μ := by
  intro H locs ls q ce hP hS hl hce hcv hcl
  refine vx_catch (own := own) (name := name) (E := X) (ce := ce) C.1.2.2.2.1 (tableOf hp) ⟨h4.1, h4.2.1, h4.2.2.1, h4.2.2.2⟩ (tableOf hs) ?_ (fun z hz => ?_) ?_ h0 (C.1.2.2.2.2.1 _ hlink) (va_Nw.use rfl (C.2.1.2.2.1 _ hcast rfl)) hce hcv hcl (kk q H locs ls hP hS hl)
  · rw [C.2.2.2, hsp]
    simp [tableOf]
  · obtain ⟨z4, hz4, rfl⟩ := List.mem_map.mp hz
    obtain ⟨nm, n1, n2, n3⟩ := hpass z4 hz4
    exact Or.inr ⟨n2, nm, C.1.2.2.2.2.1 _ n1, C.2.1.2.2.2 _ n3⟩
  · simp [covers, hcov.1, hcov.2]
theorem PcX_a2 (C : Cx p s m args meth c E cc nL own) (hX : eX E s) {H : Heap} {locs : List Loc} (hP : va_P E.1 vwCl (eWl E μ) H) (hS : va_S (eA E s.heap.size) s.heap H locs) (As : List Value) : ∀ U : State, U.heap = H → s.WarmedH U.vm → PcX E As μ H.size As.toArray U := fun U hU hW => ⟨rfl, by rw [hU], ⟨by rw [hU]; exact hP, va_K.moved hW.alike C.2.2.2.2.2.1, C.2.2.2.2.2.2.1, va_Nw.warmM hW C.2.2.2.2.2.2.2.2⟩, eX_at hX hS hU hW⟩
theorem y_callVi (C : CH p l s m args meth c E cc nL own hh) {y : MethodName} {bytes : ByteArray} {maxL : Nat} {ret : Option FieldType} {rm : Room} {n index ci N kc : Nat} {Cn : String} {T : u_T} {P : Int32 → MemT → Prop} {PX : String → MemT → Prop} (k : Nat) (As : List Value) (hk : k < 77) (hd : mkd k = 0) (hci : eCi k = ci) (hc : vwCl[ci]? = some (Cn, T, N)) (hM : MXi l E y bytes maxL ret rm (.ref (eAd E k) :: As) μ P PX kc) (hG : GoodIn lgood (wsV own index Cn y (wsM y bytes maxL ret))) (hrc : rm.cells = kc) (hrs : rm.slots = 6 * kc) (hdd : y.cls = Cn ∧ y.cls ≠ "java/lang/invoke/MethodHandle" ∧ y.cls ≠ "java/lang/invoke/VarHandle" ∧ (parseMethodDescriptor y.desc).map (fun d => d.parameters.length) = some n) (hR : rm.frames + 1 ≤ R.frames ∧ 8 + (maxL + 11) + rm.locals ≤ R.locals) (hn : As.length = n) {st0 : List Value} (hst : st0 = As.reverse ++ .ref (eAd E k) :: rest) (hW : (rest.map fun v => v.category).sum ≤ 8) (hf : cells + kc ≤ R.cells ∧ slots + 6 * kc ≤ R.slots) (hdg : decode cc pc = .ok (.invokevirtual index, 3))
    (kx : ∀ (X : String) (μ2 : MemT), PX X μ2 → VX p l e R s m args below meth c E nL (cells + kc) (slots + 6 * kc) Q pc lo rest X μ2)
    (kk : ∀ (r : Int32) (μ2 : MemT), P r μ2 → V p l e R s m args below meth c E nL (cells + kc) (slots + 6 * kc) Q (pc + 3) lo (.int r :: rest) μ2) : V p l e R s m args below meth c E nL cells slots Q pc lo st0 μ := by
  intro H locs ls hP hS hl
  have hFc : ∀ q, eA E H.size q → eA E s.heap.size q := eA_le hS.1
  refine vx_calli (vx_runV (As := As) (rest := rest) ⟨C.1.1, C.1.2.1, C.1.2.2.1, C.1.2.2.2.1, C.1.2.2.2.2.1⟩ (hM H.size) (cwV n C.1.2.2.2.2.1 hG rfl hrc hrs hdd hR) ⟨PcX_blind E _ μ H.size, va_recv C.1.2.2.2.2.2.1 hP (ci := ci) (q0 := k) hc ((eWl_get E μ hk).trans (by rw [eEn_O hd, hci])), PcX_a2 C.1 C.2.1 hP hS (.ref (eAd E k) :: As)⟩ rfl hn hl.1 hst (lv_room hW) hdg hf) hS (fun q _ h => hFc q h) hFc (fun q _ h => hFc q h) (fun X ce q9 u t H1 locs1 ht hvm hp hB hz1 hk1 hS1 hce hcv hcl => ?_) (fun r μ2 t H1 locs1 ht hvm hp hB hz1 hk1 hS1 => ?_)
  · obtain ⟨rfl, hB⟩ := hB
    rw [wdP, ht] at hB
    exact kx _ _ hp H1 locs1 ls q9 ce hB hS1 hl hce hcv hcl
  · rw [wdP, ht] at hB
    exact kk r μ2 hp H1 locs1 ls hB hS1 hl
theorem y_callVl (C : CH p l s m args meth c E cc nL own hh) {y : MethodName} {bytes : ByteArray} {maxL : Nat} {ret : Option FieldType} {rm : Room} {n index ci N kc : Nat} {Cn : String} {T : u_T} {P : Int64 → MemT → Prop} {PX : String → MemT → Prop} (k : Nat) (As : List Value) (hk : k < 77) (hd : mkd k = 0) (hci : eCi k = ci) (hc : vwCl[ci]? = some (Cn, T, N)) (hM : MXl l E y bytes maxL ret rm (.ref (eAd E k) :: As) μ P PX kc) (hG : GoodIn lgood (wsV own index Cn y (wsM y bytes maxL ret))) (hrc : rm.cells = kc) (hrs : rm.slots = 6 * kc) (hdd : y.cls = Cn ∧ y.cls ≠ "java/lang/invoke/MethodHandle" ∧ y.cls ≠ "java/lang/invoke/VarHandle" ∧ (parseMethodDescriptor y.desc).map (fun d => d.parameters.length) = some n) (hR : rm.frames + 1 ≤ R.frames ∧ 8 + (maxL + 11) + rm.locals ≤ R.locals) (hn : As.length = n) {st0 : List Value} (hst : st0 = As.reverse ++ .ref (eAd E k) :: rest) (hW : (rest.map fun v => v.category).sum ≤ 8) (hf : cells + kc ≤ R.cells ∧ slots + 6 * kc ≤ R.slots) (hdg : decode cc pc = .ok (.invokevirtual index, 3))
    (kx : ∀ (X : String) (μ2 : MemT), PX X μ2 → VX p l e R s m args below meth c E nL (cells + kc) (slots + 6 * kc) Q pc lo rest X μ2)
    (kk : ∀ (r : Int64) (μ2 : MemT), P r μ2 → V p l e R s m args below meth c E nL (cells + kc) (slots + 6 * kc) Q (pc + 3) lo (.long r :: rest) μ2) : V p l e R s m args below meth c E nL cells slots Q pc lo st0 μ := by
  intro H locs ls hP hS hl
  have hFc : ∀ q, eA E H.size q → eA E s.heap.size q := eA_le hS.1
  refine vx_calll (vx_runV (As := As) (rest := rest) ⟨C.1.1, C.1.2.1, C.1.2.2.1, C.1.2.2.2.1, C.1.2.2.2.2.1⟩ (hM H.size) (cwV n C.1.2.2.2.2.1 hG rfl hrc hrs hdd hR) ⟨PcX_blind E _ μ H.size, va_recv C.1.2.2.2.2.2.1 hP (ci := ci) (q0 := k) hc ((eWl_get E μ hk).trans (by rw [eEn_O hd, hci])), PcX_a2 C.1 C.2.1 hP hS (.ref (eAd E k) :: As)⟩ rfl hn hl.1 hst (lv_room hW) hdg hf) hS (fun q _ h => hFc q h) hFc (fun q _ h => hFc q h) (fun X ce q9 u t H1 locs1 ht hvm hp hB hz1 hk1 hS1 hce hcv hcl => ?_) (fun r μ2 t H1 locs1 ht hvm hp hB hz1 hk1 hS1 => ?_)
  · obtain ⟨rfl, hB⟩ := hB
    rw [wdP, ht] at hB
    exact kx _ _ hp H1 locs1 ls q9 ce hB hS1 hl hce hcv hcl
  · rw [wdP, ht] at hB
    exact kk r μ2 hp H1 locs1 ls hB hS1 hl
end LROWS
