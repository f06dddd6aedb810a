/-! Constructors: rows over a growing world. -/
abbrev TyT : Type := ClassId × ClassId × ClassId
def tyL (T : TyT) : List (ClassId × FieldType) := [(T.1, .int), (T.2.1, .long), (T.2.2, .boolean)]
def zI (T : TyT) (n : Nat) : va_E := .inl (T.1, n, .inl (fun _ => 0))
def zZ (T : TyT) (n : Nat) : va_E := .inl (T.2.2, n, .inl (fun _ => 0))
def zJ (T : TyT) (n : Nat) : va_E := .inl (T.2.1, n, .inr (.inl (fun _ => 0)))
theorem wP_r {D : va_G} {cl : List vw_C} {X Y : va_W} {H : Heap} (h : va_P D cl (X ++ Y) H) : va_P D cl Y H := fun k q hq => h (X.length + k) q (by rw [List.getElem?_append_right (Nat.le_add_right _ _), Nat.add_sub_cancel_left]; exact hq)
theorem w_gl {X Y : va_W} {k : Nat} {q : Nat × va_E} (hq : X[k]? = some q) : (X ++ Y)[k]? = some q := by
  rw [List.getElem?_append_left (List.getElem?_eq_some_iff.mp hq).1]; exact hq
theorem w_gr {X Y : va_W} {k : Nat} {q : Nat × va_E} (hq : Y[k]? = some q) : (X ++ Y)[X.length + k]? = some q := by
  rw [List.getElem?_append_right (Nat.le_add_right _ _), Nat.add_sub_cancel_left]; exact hq
theorem wD_l {A : Nat → Prop} {X Y : va_W} (h : va_D A (X ++ Y)) : va_D A X := ⟨fun i j p q hi hj e => h.1 i j p q (w_gl hi) (w_gl hj) e, fun k q hk => h.2 k q (w_gl hk)⟩
theorem wD_r {A : Nat → Prop} {X Y : va_W} (h : va_D A (X ++ Y)) : va_D A Y := ⟨fun i j p q hi hj e => by have := h.1 _ _ p q (w_gr hi) (w_gr hj) e; omega, fun k q hk => h.2 _ q (w_gr hk)⟩
theorem w_join {A : Nat → Prop} {D : va_G} {cl : List vw_C} {X Y w1 : va_W} {H H1 : Heap} (hP : va_P D cl (X ++ Y) H) (hD : va_D A (X ++ Y)) (hk : ∀ q : Nat, q < H.size → ¬ va_A Y H.size q → H1[q]? = H[q]?) (hF : ∀ q, va_A Y H.size q → A q) (hP1 : va_P D cl w1 H1) (hD1 : va_D (va_A Y H.size) w1) : va_P D cl (X ++ w1) H1 ∧ va_D A (X ++ w1) := by
  have apart : ∀ (k : Nat) (q : Nat × va_E), X[k]? = some q → q.1 < H.size ∧ ¬ va_A Y H.size q.1 := by
    intro k q hq
    have hl := (hP k q (w_gl hq)).lt
    refine ⟨hl, fun h => ?_⟩
    rcases h with ⟨j, e, h⟩ | h
    · have := hD.1 k (X.length + j) q (q.1, e) (w_gl hq) (w_gr h) rfl
      have := (List.getElem?_eq_some_iff.mp hq).1
      omega
    · omega
  refine ⟨va_P.app (fun k q hq => ?_) hP1, va_D.app (wD_l hD) (hD1.weaken (fun k q _ h => hF q.1 h)) (fun i j x y hx hy hxy => ?_)⟩
  · obtain ⟨g1, g2⟩ := apart k q hq
    exact (hP k q (w_gl hq)).kept (hk q.1 g1 g2)
  · exact (apart i x hx).2 (by rw [hxy]; exact hD1.2 j y hy)
def UU (p : Program) (l : Launch) (e : Env) (R : Room) (s : State) (m : MethodId) (args : Array Value) (below : List Frame) (meth : Method) (c : Code) (D : va_G) (A : Nat → Prop) (nL : Nat) (cells slots : Nat) (Q : State → Prop) (pc : Nat) (lo : List (Nat × Value)) (st : List Value) (ws : va_W) : Prop :=
  ∀ (H : Heap) (locs : List Loc) (ls : Array Slot), va_P D vwCl ws H → va_D A ws → va_S A s.heap H locs → lv_has ls nL lo → W p l e R s m args below meth c H locs cells slots Q (F0 m pc ls st)
/-- what stands fast in a constructor's walk -/
def CK (p : Program) (s : State) (m : MethodId) (args : Array Value) (c : Code) (D : va_G) (T : TyT) (A : Nat → Prop) (cc : ByteArray) (nL : Nat) (own : String) : Prop :=
  p.tables.exec = Jvm.exec ∧ c.code = cc ∧ c.maxLocals = nL ∧ s.vm.findClass own = some m.cls ∧ (∀ w ∈ lgood, w.before args s = true) ∧ va_K D vwCl (tyL T) s ∧ ∀ q, s.heap.size ≤ q → A q
/-- a class's tables -/
def CF (own : String) (Tn : u_T) (N ci : Nat) (ty0 : Nat → FieldType) : Prop := vwCl[ci]? = some (own, Tn, N) ∧ (∀ w ∈ u_ws own Tn N, w ∈ lgood) ∧ (∀ k, k < N → parseFieldDescriptor (Tn k).2.2.1 = some (ty0 k)) ∧ ∀ a, a < N → ∀ b, b < N → a ≠ b → (Tn a).2.1 ≠ (Tn b).2.1
def lnest : List (Nat × MethodName) := [(11, yX7_init), (18, yX2_init), (25, yX3_init), (32, yX1_init), (39, yX6_init), (46, yX0_init), (53, yX4_init), (60, yX5_init)]
def eN8 (U : State) : Prop := ∀ q ∈ lnest, va_Nw (.methodLinkNest RX8 q.1 q.2 RX8) U
def PcN (D : va_G) (T : TyT) (h0 ci : Nat) (fs0 : List Value) (sz : Nat) : Array Value → State → Prop := va_Pc [.ref h0] (fun U => U.heap.size = sz ∧ va_P D vwCl [(h0, .inr (ci, fs0))] U.heap ∧ va_K D vwCl (tyL T) U ∧ eN8 U)
theorem PcN_blind (D : va_G) (T : TyT) (h0 ci : Nat) (fs0 : List Value) (sz : Nat) : FrameBlind (PcN D T h0 ci fs0 sz) := by
  intro a U g mk q
  obtain ⟨q0, q1, qP, qK, qN⟩ := q
  exact ⟨q0, q1, qP, va_K.moved (u := U) (U := U.calling g mk a) (Vm.Alike.refl U.vm) qK, fun z hz => va_Nw.same rfl rfl (qN z hz)⟩
def BN (D : va_G) (A : Nat → Prop) (w : (Nat → Nat) → va_W) (u : Nat → Nat) (t : State) : Prop := va_P D vwCl (w u) t.heap ∧ va_D A (w u)
/-- a constructor of the class number ci: out of a blank object at h0 it makes the world w h0 u, u the new addresses -/
def MN (l : Launch) (D : va_G) (T : TyT) (y : MethodName) (bytes : ByteArray) (rm : Room) (ci : Nat) (fs0 : List Value) (w : Nat → (Nat → Nat) → va_W) : Prop := ∀ (h0 sz : Nat), Met l y (wsM y bytes 1 none) rm (PcN D T h0 ci fs0 sz) (va_Qv (fun _ : Nat → Nat => True) (BN D (va_A [(h0, .inr (ci, fs0))] sz) (w h0)) (va_A [(h0, .inr (ci, fs0))] sz)) rm.cells rm.slots (va_A [(h0, .inr (ci, fs0))] sz)
def QN (below : List Frame) (D : va_G) (w : Nat → (Nat → Nat) → va_W) (h0 ci : Nat) (fs0 : List Value) (rm : Room) (s : State) : State → Prop := MQ below (va_Qv (fun _ : Nat → Nat => True) (BN D (va_A [(h0, .inr (ci, fs0))] s.heap.size) (w h0)) (va_A [(h0, .inr (ci, fs0))] s.heap.size)) #[.ref h0] s rm.cells rm.slots (va_A [(h0, .inr (ci, fs0))] s.heap.size)
theorem mn_entry {l : Launch} {D : va_G} {T : TyT} {y : MethodName} {bytes : ByteArray} {rm : Room} {ci : Nat} {fs0 : List Value} {w : Nat → (Nat → Nat) → va_W} (hy : plainName y.cls = true) (hyn : y.name = "<init>")
    (body : ∀ (p : Program) (e : Env) (s : State) (m : MethodId) (below : List Frame) (meth : Method) (c : Code) (h0 : Nat), CK p s m #[.ref h0] c D T (va_A [(h0, .inr (ci, fs0))] s.heap.size) bytes 1 y.cls → meth.sig.returnType = none → meth.locks = false → meth.name = "<init>" → eN8 s → UU p l e rm s m #[.ref h0] below meth c D (va_A [(h0, .inr (ci, fs0))] s.heap.size) 1 0 0 (QN below D w h0 ci fs0 rm s) 0 [(0, .ref h0)] [] [(h0, .inr (ci, fs0))]) : MN l D T y bytes rm ci fs0 w := by
  intro h0 sz
  refine Met.ofW (cc := bytes) (maxL := 1) (ret := none) hy rfl ?_
  intro p e s m args below meth c s₁ B hml hv
  obtain ⟨rfl, hsz, hP, hK, hN⟩ := hv
  subst hsz
  have hts := atoms_spec (ws := wsM y bytes 1 none) B.pre
  have hl := lv_entry [.ref h0] (n := 1) (Nat.le_of_ble_eq_true rfl)
  rw [lg_entry_eq]
  have hin : meth.name = "<init>" := (name_of_methodNamed B.named B.method).1.trans hyn
  have hD : va_D (va_A [(h0, .inr (ci, fs0))] s.heap.size) [(h0, .inr (ci, fs0))] := by
    refine ⟨fun i j x z hi hj _ => ?_, fun k q hk => va_A.in hk⟩
    have h1 := (List.getElem?_eq_some_iff.mp hi).1
    have h2 := (List.getElem?_eq_some_iff.mp hj).1
    simp only [List.length_cons, List.length_nil] at h1 h2
    omega
  exact body p e s m below meth c h0 ⟨B.exec, B.bytes, hml, findClass_of_methodNamed B.named, fun w hw => hts w (List.mem_cons_of_mem _ hw), hK, fun q h => Or.inr h⟩ B.returns B.notSynchronized hin hN s.heap [] _ hP hD va_S.rf hl
section NROWS
variable {p : Program} {l : Launch} {e : Env} {R : Room} {s : State} {m : MethodId} {args : Array Value} {below : List Frame} {meth : Method} {c : Code} {D : va_G} {T : TyT} {A : Nat → Prop} {cc : ByteArray} {nL : Nat} {own : String} {cells slots : Nat} {Q : State → Prop} {pc : Nat} {lo : List (Nat × Value)} {rest : List Value} {ws : va_W}
theorem n_aload (C : CK p s m args c D T A cc nL own) {k : Fin 4} {i x : Nat} (j : Nat) (hi : (k : Nat) = i) (hj : lo[j]? = some (i, .ref x)) (hdg : decode cc pc = .ok (.aload_n k, 1)) (kk : UU p l e R s m args below meth c D A nL cells slots Q (pc + 1) lo (.ref x :: rest) ws) : UU p l e R s m args below meth c D A nL cells slots Q pc lo rest ws := fun H locs ls hP hD hS hl => lv_aload_n C.1 C.2.1 hdg hi (lv_at hl j hj) (kk H locs ls hP hD hS hl)
theorem n_astore (C : CK p s m args c D T A cc nL own) {k : Fin 4} {i x : Nat} (lo2 : List (Nat × Value)) (hi : (k : Nat) = i) (hn : i < nL) (hlo : (i, Value.ref x) :: lo.filter (fun q => !(q.1 == i) && !(q.1 + 1 == i && q.2.category == 2)) = lo2) (hdg : decode cc pc = .ok (.astore_n k, 1)) (kk : UU p l e R s m args below meth c D A nL cells slots Q (pc + 1) lo2 rest ws) : UU p l e R s m args below meth c D A nL cells slots Q pc lo (.ref x :: rest) ws := fun H locs ls hP hD hS hl => lv_astore_n C.1 C.2.1 hdg hi hl hn hlo (fun ls2 hl2 => kk H locs ls2 hP hD hS hl2)
theorem n_istore (C : CK p s m args c D T A cc nL own) {i : Nat} {x : Int32} (lo2 : List (Nat × Value)) (hn : i < nL) (hlo : (i, Value.int x) :: lo.filter (fun q => !(q.1 == i) && !(q.1 + 1 == i && q.2.category == 2)) = lo2) (hdg : decode cc pc = .ok (.istore i, 2)) (kk : UU p l e R s m args below meth c D A nL cells slots Q (pc + 2) lo2 rest ws) : UU p l e R s m args below meth c D A nL cells slots Q pc lo (.int x :: rest) ws := fun H locs ls hP hD hS hl => lv_istore C.1 C.2.1 hdg hl hn hlo (fun ls2 hl2 => kk H locs ls2 hP hD hS hl2)
theorem n_sipush (C : CK p s m args c D T A cc nL own) {n : Int} {v : Int32} (hdg : decode cc pc = .ok (.sipush n, 3)) (hv : (Int16.ofInt n).toInt32 = v) (kk : UU p l e R s m args below meth c D A nL cells slots Q (pc + 3) lo (.int v :: rest) ws) : UU p l e R s m args below meth c D A nL cells slots Q pc lo rest ws := fun H locs ls hP hD hS hl => lv_sipush C.1 C.2.1 hdg hv (kk H locs ls hP hD hS hl)
theorem n_bipush (C : CK p s m args c D T A cc nL own) {n : Int} {v : Int32} (hdg : decode cc pc = .ok (.bipush n, 2)) (hv : (Int8.ofInt n).toInt32 = v) (kk : UU p l e R s m args below meth c D A nL cells slots Q (pc + 2) lo (.int v :: rest) ws) : UU p l e R s m args below meth c D A nL cells slots Q pc lo rest ws := fun H locs ls hP hD hS hl => lv_bipush C.1 C.2.1 hdg hv (kk H locs ls hP hD hS hl)
theorem n_iconst (C : CK p s m args c D T A cc nL own) {n : Int} {v : Int32} (hdg : decode cc pc = .ok (.iconst n, 1)) (hv : Int32.ofInt n = v) (kk : UU p l e R s m args below meth c D A nL cells slots Q (pc + 1) lo (.int v :: rest) ws) : UU p l e R s m args below meth c D A nL cells slots Q pc lo rest ws := fun H locs ls hP hD hS hl => lv_iconst C.1 C.2.1 hdg hv (kk H locs ls hP hD hS hl)
theorem n_dup (C : CK p s m args c D T A cc nL own) {x : Nat} (hdg : decode cc pc = .ok (.dup, 1)) (kk : UU p l e R s m args below meth c D A nL cells slots Q (pc + 1) lo (.ref x :: .ref x :: rest) ws) : UU p l e R s m args below meth c D A nL cells slots Q pc lo (.ref x :: rest) ws := fun H locs ls hP hD hS hl => lv_dup C.1 C.2.1 hdg rfl (kk H locs ls hP hD hS hl)
theorem n_newI (C : CK p s m args c D T A cc nL own) {n : Int32} (N k1 n1 : Nat) (h1 : cells + 1 = k1) (h2 : slots + N = n1) (harr : Cond.arrayClass .int ∈ lgood) (hn : ¬ n < 0) (hN : n.toNatClampNeg = N) (hby : N * componentBytes .int ≤ 536870912) (hc : k1 ≤ R.cells) (hs : n1 ≤ R.slots) (hdg : decode cc pc = .ok (.newarray .int, 2)) (kk : ∀ q, UU p l e R s m args below meth c D A nL k1 n1 Q (pc + 2) lo (.ref q :: rest) (ws ++ [(q, zI T N)])) : UU p l e R s m args below meth c D A nL cells slots Q pc lo (.int n :: rest) ws := by
  intro H locs ls hP hD hS hl
  subst h1
  subst h2
  refine va_newa (atype := .int) (ty := .int) (a0 := (N, .inl (fun _ => 0))) C.1 C.2.1 (C.2.2.2.2.1 _ harr) rfl C.2.2.2.2.2.1 hP hD hS C.2.2.2.2.2.2 (fun cA => rfl) hn hN hby hc hs hdg (fun q cA H1 hK1 hP1 hD1 hS1 => ?_)
  have e1 := (hK1.2 3 (cA, .int) rfl).2
  have e2 := (C.2.2.2.2.2.1.2 0 (T.1, .int) rfl).2
  have e : cA = T.1 := Option.some.inj (e1.symm.trans e2)
  subst e
  exact kk q H1 locs ls hP1 hD1 hS1 hl
theorem n_newZ (C : CK p s m args c D T A cc nL own) {n : Int32} (N k1 n1 : Nat) (h1 : cells + 1 = k1) (h2 : slots + N = n1) (harr : Cond.arrayClass .boolean ∈ lgood) (hn : ¬ n < 0) (hN : n.toNatClampNeg = N) (hby : N * componentBytes .boolean ≤ 536870912) (hc : k1 ≤ R.cells) (hs : n1 ≤ R.slots) (hdg : decode cc pc = .ok (.newarray .boolean, 2)) (kk : ∀ q, UU p l e R s m args below meth c D A nL k1 n1 Q (pc + 2) lo (.ref q :: rest) (ws ++ [(q, zZ T N)])) : UU p l e R s m args below meth c D A nL cells slots Q pc lo (.int n :: rest) ws := by
  intro H locs ls hP hD hS hl
  subst h1
  subst h2
  refine va_newa (atype := .boolean) (ty := .boolean) (a0 := (N, .inl (fun _ => 0))) C.1 C.2.1 (C.2.2.2.2.1 _ harr) rfl C.2.2.2.2.2.1 hP hD hS C.2.2.2.2.2.2 (fun cA => rfl) hn hN hby hc hs hdg (fun q cA H1 hK1 hP1 hD1 hS1 => ?_)
  have e1 := (hK1.2 3 (cA, .boolean) rfl).2
  have e2 := (C.2.2.2.2.2.1.2 2 (T.2.2, .boolean) rfl).2
  have e : cA = T.2.2 := Option.some.inj (e1.symm.trans e2)
  subst e
  exact kk q H1 locs ls hP1 hD1 hS1 hl
theorem n_newJ (C : CK p s m args c D T A cc nL own) {n : Int32} (N k1 n1 : Nat) (h1 : cells + 1 = k1) (h2 : slots + N = n1) (harr : Cond.arrayClass .long ∈ lgood) (hn : ¬ n < 0) (hN : n.toNatClampNeg = N) (hby : N * componentBytes .long ≤ 536870912) (hc : k1 ≤ R.cells) (hs : n1 ≤ R.slots) (hdg : decode cc pc = .ok (.newarray .long, 2)) (kk : ∀ q, UU p l e R s m args below meth c D A nL k1 n1 Q (pc + 2) lo (.ref q :: rest) (ws ++ [(q, zJ T N)])) : UU p l e R s m args below meth c D A nL cells slots Q pc lo (.int n :: rest) ws := by
  intro H locs ls hP hD hS hl
  subst h1
  subst h2
  refine va_newa (atype := .long) (ty := .long) (a0 := (N, .inr (.inl (fun _ => 0)))) C.1 C.2.1 (C.2.2.2.2.1 _ harr) rfl C.2.2.2.2.2.1 hP hD hS C.2.2.2.2.2.2 (fun cA => rfl) hn hN hby hc hs hdg (fun q cA H1 hK1 hP1 hD1 hS1 => ?_)
  have e1 := (hK1.2 3 (cA, .long) rfl).2
  have e2 := (C.2.2.2.2.2.1.2 1 (T.2.1, .long) rfl).2
  have e : cA = T.2.1 := Option.some.inj (e1.symm.trans e2)
  subst e
  exact kk q H1 locs ls hP1 hD1 hS1 hl
theorem n_new (C : CK p s m args c D T A cc nL own) {Cn : String} {Tn : u_T} {N ci index : Nat} {ty0 : Nat → FieldType} (F : CF Cn Tn N ci ty0) (fs0 : List Value) (k1 n1 : Nat) (h1 : cells + 1 = k1) (h2 : slots + N = n1) (hcl : Cond.classLink own index Cn ∈ lgood) (hinst : Cond.instantiable Cn N ∈ lgood) (hini : Cond.initialized Cn ∈ lgood) (hfs : ∀ j, j < N → defaultValue (ty0 j) = vp_V fs0 j) (hc : k1 ≤ R.cells) (hs : n1 ≤ R.slots) (hdg : decode cc pc = .ok (.new index, 3)) (kk : ∀ q, UU p l e R s m args below meth c D A nL k1 n1 Q (pc + 3) lo (.ref q :: rest) (ws ++ [(q, .inr (ci, fs0))])) : UU p l e R s m args below meth c D A nL cells slots Q pc lo rest ws := by
  intro H locs ls hP hD hS hl
  subst h1
  subst h2
  exact va_new C.1 C.2.1 C.2.2.2.2.1 F.2.1 ty0 F.2.2.1 C.2.2.2.1 (C.2.2.2.2.1 _ hcl) (C.2.2.2.2.1 _ hinst) (C.2.2.2.2.1 _ hini) C.2.2.2.2.2.1 hP hD hS C.2.2.2.2.2.2 F.1 hfs hc hs hdg (fun q H1 hP1 hD1 hS1 => kk q H1 locs ls hP1 hD1 hS1 hl)
theorem n_put (C : CK p s m args c D T A cc nL own) (hin2 : meth.name = "<init>") {Tn : u_T} {N ci index : Nat} {ty0 : Nat → FieldType} (F : CF own Tn N ci ty0) {a : Nat} {fs : List Value} {v : Value} (k : Nat) (ty : FieldType) (hk : k < N) (hw : Cond.fieldLink own index own (Tn k).2.1 (Tn k).2.2.1 ∈ lgood) (hdecl : (Tn k).1 = own) (hd : parseFieldDescriptor (Tn k).2.2.1 = some ty) (hn : narrow ty v = v) (hfit : fits ty v = true) (hlen : fs.length = N) (hdg : decode cc pc = .ok (.putfield index, 3)) (fs' : List Value) (ws' : va_W) (hfs : fs.set k v = fs') (hws : ws = ws') (kk : fs'.length = N → UU p l e R s m args below meth c D A nL cells slots Q (pc + 3) lo rest ((a, .inr (ci, fs')) :: ws')) : UU p l e R s m args below meth c D A nL cells slots Q pc lo (v :: .ref a :: rest) ((a, .inr (ci, fs)) :: ws) := by
  intro H locs ls hP hD hS hl
  subst hfs
  subst hws
  have hl0 : k < fs.length := by rw [hlen]; exact hk
  have hl1 : (fs.set k v).length = N := by rw [List.length_set]; exact hlen
  have hsame : ∀ x, s.fieldFound? (Tn k).1 (Tn k).2.1 (Tn k).2.2.1 = some x → s.fieldFound? own (Tn k).2.1 (Tn k).2.2.1 = some x := fun x h => by rw [hdecl] at h; exact h
  cases hfin : (Tn k).2.2.2 with
  | true => exact va_putF C.1 C.2.1 C.2.2.2.2.1 F.2.1 ty0 F.2.2.1 F.2.2.2 C.2.2.2.1 C.2.2.2.2.2.1 hP hD hS 0 rfl F.1 k hk (C.2.2.2.2.1 _ hw) hsame hfin hin2 hdecl hd hn hfit hl0 hdg (fun H1 locs1 hP1 hD1 hS1 => kk hl1 H1 locs1 ls hP1 hD1 hS1 hl)
  | false => exact va_put C.1 C.2.1 C.2.2.2.2.1 F.2.1 ty0 F.2.2.1 F.2.2.2 C.2.2.2.1 C.2.2.2.2.2.1 hP hD hS 0 rfl F.1 k hk (C.2.2.2.2.1 _ hw) hsame hfin hd hn hfit hl0 hdg (fun H1 locs1 hP1 hD1 hS1 => kk hl1 H1 locs1 ls hP1 hD1 hS1 hl)
/-- super() -/
theorem n_obj (C : CK p s m args c D T A cc nL own) {h0 idx : Nat} (hj : lo[0]? = some (0, .ref h0)) (h1 : Cond.methodLink own idx Lib.objectInit ∈ lgood) (h2 : Cond.instanceMethod Lib.objectInit ∈ lgood) (h3 : Cond.code Lib.objectInit ⟨#[0xb1]⟩ 1 none ∈ lgood) (hf : 1 ≤ R.frames) (hlo : 12 ≤ R.locals) (d0 : decode cc 0 = .ok (.aload_n 0, 1)) (d1 : decode cc 1 = .ok (.invokespecial idx, 3)) (kk : UU p l e R s m args below meth c D A nL cells slots Q 4 lo [] ws) : UU p l e R s m args below meth c D A nL cells slots Q 0 lo [] ws := by
  intro H locs ls hP hD hS hl
  refine lv_aload_n C.1 C.2.1 d0 rfl (lv_at hl 0 hj) ?_
  refine W.objInit C.1 C.2.1 C.2.2.2.1 (C.2.2.2.2.1 _ h1) (C.2.2.2.2.1 _ h2) (C.2.2.2.2.1 _ h3) rfl (by rw [C.2.2.1]; exact hl.1) rfl d1 hf (by show 2 * 0 + 0 + 12 ≤ _; omega) ?_
  exact W.eq (g2 := F0 m 4 ls []) rfl (kk H locs ls hP hD hS hl)
theorem n_callN (C : CK p s m args c D T A cc nL own) (hN8 : eN8 s) {y : MethodName} {bytes : ByteArray} {rm : Room} {ci index q : Nat} {fs0 : List Value} {w : Nat → (Nat → Nat) → va_W} {host : String} (hM : MN l D T y bytes rm ci fs0 w) (k1 n1 : Nat) (h1 : cells + rm.cells = k1) (h2 : slots + rm.slots = n1) (hnest : va_Nw (.methodLinkNest own index y host) s) (hini : Cond.initialized y.cls ∈ lgood) (hcode : Cond.code y bytes 1 none ∈ lgood) (him : Cond.instanceMethod y ∈ lgood) (hy1 : y.name = "<init>") (hdd : y.cls ≠ "java/lang/invoke/MethodHandle" ∧ y.cls ≠ "java/lang/invoke/VarHandle" ∧ (parseMethodDescriptor y.desc).map (fun d => d.parameters.length) = some 0) (hR : rm.frames + 1 ≤ R.frames ∧ 8 + (1 + 11) + rm.locals ≤ R.locals) (hW : (rest.map fun v => v.category).sum ≤ 8) (hc : k1 ≤ R.cells) (hs : n1 ≤ R.slots) (hdg : decode cc pc = .ok (.invokespecial index, 3)) (kk : ∀ u, UU p l e R s m args below meth c D A nL k1 n1 Q (pc + 3) lo rest (ws ++ w q u)) : UU p l e R s m args below meth c D A nL cells slots Q pc lo (.ref q :: rest) (ws ++ [(q, .inr (ci, fs0))]) := by
  intro H locs ls hP hD hS hl
  subst h1
  subst h2
  have hPc := wP_r hP
  have hDc := wD_r hD
  have hFc : ∀ z, va_A [(q, .inr (ci, fs0))] H.size z → A z := fun z hz => by
    rcases hz with ⟨k, e, hk⟩ | hz
    · exact hDc.2 k _ hk
    · exact C.2.2.2.2.2.2 z (Nat.le_trans hS.1 hz)
  refine va_callv (va_runIN (As := []) (rest := rest) ⟨C.1, C.2.1, C.2.2.1, C.2.2.2.1, C.2.2.2.2.1⟩ (hM q H.size) ⟨va_cnB 0 C.2.2.2.2.1 (giC hcode) rfl rfl rfl hnest (C.2.2.2.2.1 _ hini) hdd hR, hy1, C.2.2.2.2.1 _ him⟩ ⟨PcN_blind D T q ci fs0 H.size, fun U hU hW => ⟨rfl, by rw [hU], by rw [hU]; exact hPc, va_K.moved hW.alike C.2.2.2.2.2.1, fun z hz => va_Nw.warmM hW (hN8 z hz)⟩⟩ rfl rfl hl.1 rfl (lv_room hW) hdg ⟨hc, hs⟩) hS (fun q _ h => hFc q h) hFc (fun u t H1 locs1 ht hvm hp hB hz1 hk1 hS1 => ?_)
  obtain ⟨hP1, hD1⟩ := hB
  rw [ht] at hP1
  obtain ⟨hP2, hD2⟩ := w_join hP hD hk1 hFc hP1 hD1
  exact kk u H1 locs1 ls hP2 hD2 hS1 hl
theorem n_callI (C : CK p s m args c D T A cc nL own) (hN8 : eN8 s) {y : MethodName} {bytes : ByteArray} {rm : Room} {ci index q : Nat} {fs0 : List Value} {w : Nat → (Nat → Nat) → va_W} (hM : MN l D T y bytes rm ci fs0 w) (k1 n1 : Nat) (h1 : cells + rm.cells = k1) (h2 : slots + rm.slots = n1) (hlink : Cond.methodLink own index y ∈ lgood) (hini : Cond.initialized y.cls ∈ lgood) (hcode : Cond.code y bytes 1 none ∈ lgood) (him : Cond.instanceMethod y ∈ lgood) (hy1 : y.name = "<init>") (hdd : y.cls ≠ "java/lang/invoke/MethodHandle" ∧ y.cls ≠ "java/lang/invoke/VarHandle" ∧ (parseMethodDescriptor y.desc).map (fun d => d.parameters.length) = some 0) (hR : rm.frames + 1 ≤ R.frames ∧ 8 + (1 + 11) + rm.locals ≤ R.locals) (hW : (rest.map fun v => v.category).sum ≤ 8) (hc : k1 ≤ R.cells) (hs : n1 ≤ R.slots) (hdg : decode cc pc = .ok (.invokespecial index, 3)) (kk : ∀ u, UU p l e R s m args below meth c D A nL k1 n1 Q (pc + 3) lo rest (ws ++ w q u)) : UU p l e R s m args below meth c D A nL cells slots Q pc lo (.ref q :: rest) (ws ++ [(q, .inr (ci, fs0))]) := by
  intro H locs ls hP hD hS hl
  subst h1
  subst h2
  have hPc := wP_r hP
  have hDc := wD_r hD
  have hFc : ∀ z, va_A [(q, .inr (ci, fs0))] H.size z → A z := fun z hz => by
    rcases hz with ⟨k, e, hk⟩ | hz
    · exact hDc.2 k _ hk
    · exact C.2.2.2.2.2.2 z (Nat.le_trans hS.1 hz)
  refine va_callv (va_runI (As := []) (rest := rest) ⟨C.1, C.2.1, C.2.2.1, C.2.2.2.1, C.2.2.2.2.1⟩ (hM q H.size) (cwI 0 C.2.2.2.2.1 (giC hcode) rfl rfl rfl (C.2.2.2.2.1 _ hini) (C.2.2.2.2.1 _ hlink) (C.2.2.2.2.1 _ him) hy1 hdd hR) ⟨PcN_blind D T q ci fs0 H.size, fun U hU hW => ⟨rfl, by rw [hU], by rw [hU]; exact hPc, va_K.moved hW.alike C.2.2.2.2.2.1, fun z hz => va_Nw.warmM hW (hN8 z hz)⟩⟩ rfl rfl hl.1 rfl (lv_room hW) hdg ⟨hc, hs⟩) hS (fun q _ h => hFc q h) hFc (fun u t H1 locs1 ht hvm hp hB hz1 hk1 hS1 => ?_)
  obtain ⟨hP1, hD1⟩ := hB
  rw [ht] at hP1
  obtain ⟨hP2, hD2⟩ := w_join hP hD hk1 hFc hP1 hD1
  exact kk u H1 locs1 ls hP2 hD2 hS1 hl
end NROWS
theorem n_ret {p : Program} {l : Launch} {e : Env} {R : Room} {s : State} {m : MethodId} {below : List Frame} {meth : Method} {c : Code} {D : va_G} {T : TyT} {cc : ByteArray} {own : String} {pc : Nat} {lo : List (Nat × Value)} {w : Nat → (Nat → Nat) → va_W} {h0 ci : Nat} {fs0 : List Value} {rm : Room} {cells slots : Nat} (C : CK p s m #[.ref h0] c D T (va_A [(h0, .inr (ci, fs0))] s.heap.size) cc 1 own) (hr : meth.sig.returnType = none) (hlocks : meth.locks = false) (u : Nat → Nat) {ws : va_W} (hw : ws = w h0 u) (hc : cells ≤ rm.cells) (hs : slots ≤ rm.slots) (hdg : decode cc pc = .ok (.return_, 1)) : UU p l e R s m #[.ref h0] below meth c D (va_A [(h0, .inr (ci, fs0))] s.heap.size) 1 cells slots (QN below D w h0 ci fs0 rm s) pc lo [] ws := by
  intro H locs ls hP hD hS hl
  subst hw
  exact W.widen hc hs (W.vret C.1 C.2.1 hr (fun t ht _ => ⟨⟨u, rfl, trivial, by rw [ht]; exact hP, hD⟩, hS.F ht⟩) hS.2.2 hdg hlocks)
