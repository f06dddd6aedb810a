/-! The law's loop: its rows. -/
def CW (p : Program) (l : Launch) (s : State) (m : MethodId) (args : Array Value) (meth : Method) (c : Code) (E : EvT) (b L : Nat) (xs : Nat → Int32) : Prop := Cx p s m args meth c E cL_law 8 RL ∧ eX E s ∧ l.stackTraces = false ∧ va_X b L xs s s.heap ∧ b < s.heap.size ∧ ¬ eA E s.heap.size b
theorem and15 (v : Int32) : (v &&& 15) = 0 ∨ (v &&& 15) = 1 ∨ (v &&& 15) = 2 ∨ (v &&& 15) = 3 ∨ (v &&& 15) = 4 ∨ (v &&& 15) = 5 ∨ (v &&& 15) = 6 ∨ (v &&& 15) = 7 ∨ (v &&& 15) = 8 ∨ (v &&& 15) = 9 ∨ (v &&& 15) = 10 ∨ (v &&& 15) = 11 ∨ (v &&& 15) = 12 ∨ (v &&& 15) = 13 ∨ (v &&& 15) = 14 ∨ (v &&& 15) = 15 := by
  have h : (v &&& 15).toBitVec.toNat < 16 := by
    have e : (v &&& 15).toBitVec = v.toBitVec &&& 15#32 := rfl
    rw [e, BitVec.toNat_and]
    exact Nat.lt_of_le_of_lt Nat.and_le_right (by decide)
  have key : ∀ n, n < 16 → (v &&& 15).toBitVec.toNat = n → (v &&& 15) = Int32.ofNat n := by
    intro n hn e
    apply Int32.toBitVec_inj.mp
    apply BitVec.eq_of_toNat_eq
    rw [e]
    show n = (BitVec.ofNat 32 n).toNat
    rw [BitVec.toNat_ofNat, Nat.mod_eq_of_lt (by omega)]
  generalize hn : (v &&& 15).toBitVec.toNat = n at h
  have k := key n h hn
  rw [k]
  match n, h with
  | 0, _ => exact Or.inl rfl
  | 1, _ => exact Or.inr (Or.inl rfl)
  | 2, _ => exact Or.inr (Or.inr (Or.inl rfl))
  | 3, _ => exact Or.inr (Or.inr (Or.inr (Or.inl rfl)))
  | 4, _ => exact Or.inr (Or.inr (Or.inr (Or.inr (Or.inl rfl))))
  | 5, _ => exact Or.inr (Or.inr (Or.inr (Or.inr (Or.inr (Or.inl rfl)))))
  | 6, _ => exact Or.inr (Or.inr (Or.inr (Or.inr (Or.inr (Or.inr (Or.inl rfl))))))
  | 7, _ => exact Or.inr (Or.inr (Or.inr (Or.inr (Or.inr (Or.inr (Or.inr (Or.inl rfl)))))))
  | 8, _ => exact Or.inr (Or.inr (Or.inr (Or.inr (Or.inr (Or.inr (Or.inr (Or.inr (Or.inl rfl))))))))
  | 9, _ => exact Or.inr (Or.inr (Or.inr (Or.inr (Or.inr (Or.inr (Or.inr (Or.inr (Or.inr (Or.inl rfl)))))))))
  | 10, _ => exact Or.inr (Or.inr (Or.inr (Or.inr (Or.inr (Or.inr (Or.inr (Or.inr (Or.inr (Or.inr (Or.inl rfl))))))))))
  | 11, _ => exact Or.inr (Or.inr (Or.inr (Or.inr (Or.inr (Or.inr (Or.inr (Or.inr (Or.inr (Or.inr (Or.inr (Or.inl rfl)))))))))))
  | 12, _ => exact Or.inr (Or.inr (Or.inr (Or.inr (Or.inr (Or.inr (Or.inr (Or.inr (Or.inr (Or.inr (Or.inr (Or.inr (Or.inl rfl))))))))))))
  | 13, _ => exact Or.inr (Or.inr (Or.inr (Or.inr (Or.inr (Or.inr (Or.inr (Or.inr (Or.inr (Or.inr (Or.inr (Or.inr (Or.inr (Or.inl rfl)))))))))))))
  | 14, _ => exact Or.inr (Or.inr (Or.inr (Or.inr (Or.inr (Or.inr (Or.inr (Or.inr (Or.inr (Or.inr (Or.inr (Or.inr (Or.inr (Or.inr (Or.inl rfl))))))))))))))
  | 15, _ => exact Or.inr (Or.inr (Or.inr (Or.inr (Or.inr (Or.inr (Or.inr (Or.inr (Or.inr (Or.inr (Or.inr (Or.inr (Or.inr (Or.inr (Or.inr rfl))))))))))))))
  | n + 16, h => exact absurd h (by omega)
section WROWS
variable {p : Program} {l : Launch} {e : Env} {R : Room} {s : State} {m : MethodId} {args : Array Value} {below : List Frame} {meth : Method} {c : Code} {E : EvT} {b L : Nat} {xs : Nat → Int32} {cells slots : Nat} {Q : State → Prop} {pc : Nat} {lo lo' : List (Nat × Value)} {rest : List Value} {μ : MemT}
theorem w_sld (C : CW p l s m args meth c E b L xs) {i : Int32} (hin : vp_in i L) (hdg : decode cL_law pc = .ok (.iaload, 1)) (kk : V p l e R s m args below meth c E 8 cells slots Q (pc + 1) lo (.int (xs i.toNatClampNeg) :: rest) μ) : V p l e R s m args below meth c E 8 cells slots Q pc lo (.int i :: .ref b :: rest) μ := fun H locs ls hP hS hl => va_sld C.1.1 C.1.2.1 C.2.2.2.1 C.2.2.2.2.1 C.2.2.2.2.2 hS hin hdg (kk H locs ls hP hS hl)
theorem w_slen (C : CW p l s m args meth c E b L xs) (hdg : decode cL_law pc = .ok (.arraylength, 1)) (kk : V p l e R s m args below meth c E 8 cells slots Q (pc + 1) lo (.int (nI L) :: rest) μ) : V p l e R s m args below meth c E 8 cells slots Q pc lo (.ref b :: rest) μ := fun H locs ls hP hS hl => va_slen C.1.1 C.1.2.1 C.2.2.2.1 C.2.2.2.2.1 C.2.2.2.2.2 hS hdg (kk H locs ls hP hS hl)
theorem w_wid {st : List Value} {k n : Nat} (h1 : cells ≤ k) (h2 : slots ≤ n) (kk : V p l e R s m args below meth c E 8 k n Q pc lo st μ) : V p l e R s m args below meth c E 8 cells slots Q pc lo st μ := fun H locs ls hP hS hl => W.widen h1 h2 (kk H locs ls hP hS hl)
theorem w_table (C : CW p l s m args meth c E b L xs) {dflt lo9 hi : Int} {offs : Array Int} {len : Nat} {x : Int32} (off : Int) (tgt : Nat) (h1 : ¬ x.toInt < lo9) (h2 : ¬ hi < x.toInt) (ho : offs[(x.toInt - lo9).toNat]? = some off) (ht : (pc : Int) + off = (tgt : Int)) (hdg : decode cL_law pc = .ok (.tableswitch dflt lo9 hi offs, len)) (kk : V p l e R s m args below meth c E 8 cells slots Q tgt lo rest μ) : V p l e R s m args below meth c E 8 cells slots Q pc lo (.int x :: rest) μ := fun H locs ls hP hS hl => lv_tableIn C.1.1 C.1.2.1 hdg h1 h2 ho ht (kk H locs ls hP hS hl)
theorem w_callS (C : CW p l s m args meth c E b L xs) {y : MethodName} {bytes : ByteArray} {maxL : Nat} {ret : Option FieldType} {hh : List (Nat × Nat × Nat × Nat)} {rm : Room} {n index kc : Nat} {P : Int32 → MemT → Prop} (As : List Value) (hM : MLi l E y bytes maxL ret hh rm As μ P kc) (hG : GoodIn lgood (va_wsS RL index y (wsH y bytes maxL ret hh))) (hrc : rm.cells = kc) (hrs : rm.slots = 6 * kc) (hdd : y.cls ≠ "java/lang/invoke/MethodHandle" ∧ y.cls ≠ "java/lang/invoke/VarHandle" ∧ (parseMethodDescriptor y.desc).map (fun d => d.parameters.length) = some n) (hR : rm.frames + 1 ≤ R.frames ∧ 8 + (maxL + 11) + rm.locals ≤ R.locals) (hn : As.length = n) {st0 : List Value} (hst : st0 = As.reverse ++ rest) (hW : (rest.map fun v => v.category).sum ≤ 8) (hf : cells + kc ≤ R.cells ∧ slots + 6 * kc ≤ R.slots) (hdg : decode cL_law pc = .ok (.invokestatic index, 3))
    (kk : ∀ (r : Int32) (μ2 : MemT), P r μ2 → V p l e R s m args below meth c E 8 (cells + kc) (slots + 6 * kc) Q (pc + 3) lo (.int r :: rest) μ2) : V p l e R s m args below meth c E 8 cells slots Q pc lo st0 μ := by
  intro H locs ls hP hS hl
  have hFc : ∀ q, eA E H.size q → eA E s.heap.size q := eA_le hS.1
  refine vx_calli (vx_runSX (As := As) (rest := rest) ⟨C.1.1, C.1.2.1, C.1.2.2.1, C.1.2.2.2.1, C.1.2.2.2.2.1⟩ (hM H.size) (vx_cwSW n C.1.2.2.2.2.1 hG rfl hrc hrs hdd hR) ⟨PcX_blind E _ μ H.size, PcX_a2 C.1 C.2.1 hP hS As⟩ rfl hn hl.1 hst (lv_room hW) hdg hf) hS (fun q _ h => hFc q h) hFc (fun q _ h => hFc q h) (fun X ce q9 u t H1 locs1 ht hvm hp hB hz1 hk1 hS1 hce hcv hcl => hp.elim) (fun r μ2 t H1 locs1 ht hvm hp hB hz1 hk1 hS1 => ?_)
  rw [wdP, ht] at hB
  exact kk r μ2 hp H1 locs1 ls hB hS1 hl
end WROWS
theorem giH {own : String} {index : Nat} {y : MethodName} {bytes : ByteArray} {nL : Nat} {ret : Option FieldType} {hh : List (Nat × Nat × Nat × Nat)} (h1 : Cond.methodLink own index y ∈ lgood) (h2 : Cond.static y ∈ lgood) (h4 : Cond.initialized y.cls ∈ lgood) (h5 : Cond.codeWith y bytes nL ret hh ∈ lgood) : GoodIn lgood (va_wsS own index y (wsH y bytes nL ret hh)) := by
  intro w hw
  rcases List.mem_append.mp hw with h | h
  · have hm : w ∈ lgood := by
      simp only [List.mem_cons, List.not_mem_nil, or_false] at h
      rcases h with rfl | rfl | rfl
      · exact h1
      · exact h2
      · exact h4
    exact ⟨hm, good_of_word (List.mem_filter.mp hm).2⟩
  · exact giC h5 w h
