section NAMING
variable {p : Program} {l : Launch} {e : Env} {R : Room} {s : State} {m : MethodId} {args : Array Value} {below : List Frame} {meth : Method} {c : Code} {E : EvT} {nL : Nat} {cells slots : Nat} {Q : State → Prop} {pc : Nat} {lo : List (Nat × Value)} {rest st : List Value} {μ : MemT}
theorem v_nmM (kk : ∀ μ1 : MemT, μ1 = μ → V p l e R s m args below meth c E nL cells slots Q pc lo st μ1) : V p l e R s m args below meth c E nL cells slots Q pc lo st μ := kk μ rfl
theorem v_nmI {x : Int32} (kk : ∀ z : Int32, z = x → V p l e R s m args below meth c E nL cells slots Q pc lo (.int z :: rest) μ) : V p l e R s m args below meth c E nL cells slots Q pc lo (.int x :: rest) μ := kk x rfl
theorem v_nmJ {x : Int64} (kk : ∀ z : Int64, z = x → V p l e R s m args below meth c E nL cells slots Q pc lo (.long z :: rest) μ) : V p l e R s m args below meth c E nL cells slots Q pc lo (.long x :: rest) μ := kk x rfl
end NAMING
theorem iM1 : Int32.ofInt (-1) = -1 := by decide
set_option maxRecDepth 10000 in
set_option maxHeartbeats 4000000 in
theorem so_X0_close_2 {p : Program} {l : Launch} {e : Env} {s : State} {m : MethodId} {args : Array Value} {below : List Frame} {meth : Method} {c : Code} {E : EvT} {P : MemT → Prop} (C : Cx p s m args meth c E cX0_close 4 RX0) (hr : meth.sig.returnType = none) {K2 : Int32 → Int32 → MemT → Prop} (hK2 : ∀ (x2 : Int32) (x3 : Int32) (μ : MemT), K2 x2 x3 μ → V p l e (rmN 0 0) s m args below meth c E 4 0 0 (MQ below (va_Qv P (wdP E) (eA E s.heap.size)) args s 0 0 (eA E s.heap.size)) 2 [(0, .ref (eAd E 6)), (1, .ref (eAd E 5)), (2, .int x2), (3, .int x3)] [] μ) (x2 : Int32) (x3 : Int32) (μ : MemT) (h : t_X0_close_2 K2 P x2 x3 μ) : V p l e (rmN 0 0) s m args below meth c E 4 0 0 (MQ below (va_Qv P (wdP E) (eA E s.heap.size)) args s 0 0 (eA E s.heap.size)) 2 [(0, .ref (eAd E 6)), (1, .ref (eAd E 5)), (2, .int x2), (3, .int x3)] [] μ := by
  unfold t_X0_close_2 at h
  refine v_iload_n C 3 rfl rfl dX0_close_2 ?_
  refine v_aload_n C 1 rfl rfl dX0_close_3 ?_
  refine gf_X0_34 C dX0_close_4 ?_
  refine v_icmp_ge C 43 (by decide) dX0_close_7 (fun q8 => ?_) (fun q8 => ?_)
  · replace h := h.1 q8
    refine v_aload_n C 0 rfl rfl dX0_close_43 ?_
    refine v_dup C rfl dX0_close_44 ?_
    refine gf_X0_9 C dX0_close_45 ?_
    refine v_iconst (v := (1 : Int32)) C dX0_close_48 (by decide) ?_
    refine v_iadd C dX0_close_49 ?_
    refine pf_X0_9 C dX0_close_50 ?_
    refine v_nmM (fun μ1 e_μ1 => ?_)
    replace h := h μ1 e_μ1
    exact v_vret C hr h dX0_close_53
  · replace h := h.2 q8
    refine v_aload_n C 0 rfl rfl dX0_close_10 ?_
    refine gf_X0_19 C dX0_close_11 ?_
    refine v_iload_n C 3 rfl rfl dX0_close_14 ?_
    obtain ⟨b2, h⟩ := h
    refine v_iald C 36 (by decide) rfl b2 dX0_close_15 ?_
    refine v_iload_n C 2 rfl rfl dX0_close_16 ?_
    refine v_icmp_ne C 37 (by decide) dX0_close_17 (fun q7 => ?_) (fun q7 => ?_)
    · replace h := h.1 q7
      refine v_iinc (v := (x3 + 1)) C 3 [(3, .int (x3 + 1)), (0, .ref (eAd E 6)), (1, .ref (eAd E 5)), (2, .int x2)] rfl rfl (by decide) rfl dX0_close_37 ?_
      refine v_goto C 2 (by decide) dX0_close_40 ?_
      refine v_sub C [1, 2, 3, 0] rfl ?_
      exact hK2 _ _ _ h
    · replace h := h.2 q7
      refine v_aload_n C 0 rfl rfl dX0_close_20 ?_
      refine gf_X0_19 C dX0_close_21 ?_
      refine v_iload_n C 3 rfl rfl dX0_close_24 ?_
      refine v_iconst (v := (-1 : Int32)) C dX0_close_25 (by decide) ?_
      obtain ⟨b3, h⟩ := h
      refine v_iast C 36 (by decide) rfl b3 dX0_close_26 ?_
      refine v_nmM (fun μ4 e_μ4 => ?_)
      replace h := h μ4 e_μ4
      refine v_aload_n C 0 rfl rfl dX0_close_27 ?_
      refine gf_X0_15 C dX0_close_28 ?_
      refine v_iload_n C 3 rfl rfl dX0_close_31 ?_
      refine v_aload_n C 0 rfl rfl dX0_close_32 ?_
      refine gf_X0_9 C dX0_close_33 ?_
      obtain ⟨b5, h⟩ := h
      refine v_iast C 35 (by decide) rfl b5 dX0_close_36 ?_
      refine v_nmM (fun μ6 e_μ6 => ?_)
      replace h := h μ6 e_μ6
      refine v_iinc (v := (x3 + 1)) C 3 [(3, .int (x3 + 1)), (0, .ref (eAd E 6)), (1, .ref (eAd E 5)), (2, .int x2)] rfl rfl (by decide) rfl dX0_close_37 ?_
      refine v_goto C 2 (by decide) dX0_close_40 ?_
      refine v_sub C [1, 2, 3, 0] rfl ?_
      exact hK2 _ _ _ h
set_option maxRecDepth 10000 in
set_option maxHeartbeats 4000000 in
theorem so_X0_close_0 {p : Program} {l : Launch} {e : Env} {s : State} {m : MethodId} {args : Array Value} {below : List Frame} {meth : Method} {c : Code} {E : EvT} {P : MemT → Prop} (C : Cx p s m args meth c E cX0_close 4 RX0) (hr : meth.sig.returnType = none) {K2 : Int32 → Int32 → MemT → Prop} (hK2 : ∀ (x2 : Int32) (x3 : Int32) (μ : MemT), K2 x2 x3 μ → V p l e (rmN 0 0) s m args below meth c E 4 0 0 (MQ below (va_Qv P (wdP E) (eA E s.heap.size)) args s 0 0 (eA E s.heap.size)) 2 [(0, .ref (eAd E 6)), (1, .ref (eAd E 5)), (2, .int x2), (3, .int x3)] [] μ) (x2 : Int32) (μ : MemT) (h : t_X0_close_0 K2 P x2 μ) : V p l e (rmN 0 0) s m args below meth c E 4 0 0 (MQ below (va_Qv P (wdP E) (eA E s.heap.size)) args s 0 0 (eA E s.heap.size)) 0 [(0, .ref (eAd E 6)), (1, .ref (eAd E 5)), (2, .int x2)] [] μ := by
  unfold t_X0_close_0 at h
  refine v_iconst (v := (0 : Int32)) C dX0_close_0 (by decide) ?_
  refine v_istore_n C [(3, .int (0 : Int32)), (0, .ref (eAd E 6)), (1, .ref (eAd E 5)), (2, .int x2)] rfl (by decide) rfl dX0_close_1 ?_
  refine v_sub C [1, 2, 3, 0] rfl ?_
  exact hK2 _ _ _ h
set_option maxRecDepth 10000 in
set_option maxHeartbeats 4000000 in
theorem so_X0_close {l : Launch} {E : EvT} (x2 : Int32) (μ : MemT) (P : MemT → Prop) (h : sp_X0_close x2 μ P) : MCv l E yX0_close cX0_close 4 none (rmN 0 0) [.ref (eAd E 6), .ref (eAd E 5), .int x2] μ P := by
  refine mc_entryv (by decide +kernel) (Nat.le_of_ble_eq_true rfl) (fun p e s m below meth c C hr => ?_)
  have h0 := h (fun x2_ x3_ μ => V p l e (rmN 0 0) s m ([.ref (eAd E 6), .ref (eAd E 5), .int x2] : List Value).toArray below meth c E 4 0 0 (MQ below (va_Qv P (wdP E) (eA E s.heap.size)) ([.ref (eAd E 6), .ref (eAd E 5), .int x2] : List Value).toArray s 0 0 (eA E s.heap.size)) 2 [(0, .ref (eAd E 6)), (1, .ref (eAd E 5)), (2, .int x2_), (3, .int x3_)] [] μ) (fun x2 x3 μ ht => so_X0_close_2 C hr (fun x2 x3 μ hk => hk) x2 x3 μ ht) 
  exact so_X0_close_0 C hr (fun x2 x3 μ hk => hk) x2 μ h0
set_option maxRecDepth 10000 in
set_option maxHeartbeats 4000000 in
theorem so_X0_greatestSize_5 {p : Program} {l : Launch} {e : Env} {s : State} {m : MethodId} {args : Array Value} {below : List Frame} {meth : Method} {c : Code} {E : EvT} {P : Int64 → MemT → Prop} (C : Cx p s m args meth c E cX0_greatestSize 6 RX0) (hr : meth.sig.returnType = (some .long)) {K5 : Int32 → Int64 → Int32 → MemT → Prop} (hK5 : ∀ (x2 : Int32) (x3 : Int64) (x5 : Int32) (μ : MemT), K5 x2 x3 x5 μ → V p l e (rmN 1 24) s m args below meth c E 6 0 0 (MQ below (va_Ql P (wdP E) (eA E s.heap.size)) args s 0 0 (eA E s.heap.size)) 5 [(0, .ref (eAd E 6)), (1, .ref (eAd E 5)), (2, .int x2), (3, .long x3), (5, .int x5)] [] μ) (x2 : Int32) (x3 : Int64) (x5 : Int32) (μ : MemT) (h : t_X0_greatestSize_5 K5 P x2 x3 x5 μ) : V p l e (rmN 1 24) s m args below meth c E 6 0 0 (MQ below (va_Ql P (wdP E) (eA E s.heap.size)) args s 0 0 (eA E s.heap.size)) 5 [(0, .ref (eAd E 6)), (1, .ref (eAd E 5)), (2, .int x2), (3, .long x3), (5, .int x5)] [] μ := by
  unfold t_X0_greatestSize_5 at h
  refine v_iload C 4 rfl dX0_greatestSize_5 ?_
  refine v_aload_n C 1 rfl rfl dX0_greatestSize_7 ?_
  refine gf_X0_34 C dX0_greatestSize_8 ?_
  refine v_icmp_ge C 44 (by decide) dX0_greatestSize_11 (fun q5 => ?_) (fun q5 => ?_)
  · replace h := h.1 q5
    refine v_lload_n C 3 rfl rfl dX0_greatestSize_44 ?_
    exact v_lret C hr h dX0_greatestSize_45
  · replace h := h.2 q5
    refine v_aload_n C 0 rfl rfl dX0_greatestSize_14 ?_
    refine gf_X0_19 C dX0_greatestSize_15 ?_
    refine v_iload C 4 rfl dX0_greatestSize_18 ?_
    obtain ⟨b1, h⟩ := h
    refine v_iald C 36 (by decide) rfl b1 dX0_greatestSize_20 ?_
    refine v_iload_n C 2 rfl rfl dX0_greatestSize_21 ?_
    refine v_icmp_ne C 38 (by decide) dX0_greatestSize_22 (fun q4 => ?_) (fun q4 => ?_)
    · replace h := h.1 q4
      refine v_iinc (v := (x5 + 1)) C 4 [(5, .int (x5 + 1)), (0, .ref (eAd E 6)), (1, .ref (eAd E 5)), (2, .int x2), (3, .long x3)] rfl rfl (by decide) rfl dX0_greatestSize_38 ?_
      refine v_goto C 5 (by decide) dX0_greatestSize_41 ?_
      refine v_sub C [1, 2, 3, 4, 0] rfl ?_
      exact hK5 _ _ _ _ h
    · replace h := h.2 q4
      refine v_lload_n C 3 rfl rfl dX0_greatestSize_25 ?_
      refine v_aload_n C 1 rfl rfl dX0_greatestSize_26 ?_
      refine gf_X0_78 C dX0_greatestSize_27 ?_
      refine v_iload C 4 rfl dX0_greatestSize_30 ?_
      obtain ⟨b2, h⟩ := h
      refine v_iald C 34 (by decide) rfl b2 dX0_greatestSize_32 ?_
      refine v_i2l C dX0_greatestSize_33 ?_
      refine v_maxL C gl_X0_81 (by decide) (Nat.le_of_ble_eq_true rfl) (by decide) (by decide) gm_max_long dX0_greatestSize_34 ?_
      refine v_nmJ (fun z3 e_z3 => ?_)
      replace h := h z3 e_z3
      refine v_lstore_n C [(3, .long z3), (0, .ref (eAd E 6)), (1, .ref (eAd E 5)), (2, .int x2), (5, .int x5)] rfl (by decide) rfl dX0_greatestSize_37 ?_
      refine v_iinc (v := (x5 + 1)) C 4 [(5, .int (x5 + 1)), (3, .long z3), (0, .ref (eAd E 6)), (1, .ref (eAd E 5)), (2, .int x2)] rfl rfl (by decide) rfl dX0_greatestSize_38 ?_
      refine v_goto C 5 (by decide) dX0_greatestSize_41 ?_
      refine v_sub C [2, 3, 4, 1, 0] rfl ?_
      exact hK5 _ _ _ _ h
set_option maxRecDepth 10000 in
set_option maxHeartbeats 4000000 in
theorem so_X0_greatestSize_0 {p : Program} {l : Launch} {e : Env} {s : State} {m : MethodId} {args : Array Value} {below : List Frame} {meth : Method} {c : Code} {E : EvT} {P : Int64 → MemT → Prop} (C : Cx p s m args meth c E cX0_greatestSize 6 RX0) (hr : meth.sig.returnType = (some .long)) {K5 : Int32 → Int64 → Int32 → MemT → Prop} (hK5 : ∀ (x2 : Int32) (x3 : Int64) (x5 : Int32) (μ : MemT), K5 x2 x3 x5 μ → V p l e (rmN 1 24) s m args below meth c E 6 0 0 (MQ below (va_Ql P (wdP E) (eA E s.heap.size)) args s 0 0 (eA E s.heap.size)) 5 [(0, .ref (eAd E 6)), (1, .ref (eAd E 5)), (2, .int x2), (3, .long x3), (5, .int x5)] [] μ) (x2 : Int32) (μ : MemT) (h : t_X0_greatestSize_0 K5 P x2 μ) : V p l e (rmN 1 24) s m args below meth c E 6 0 0 (MQ below (va_Ql P (wdP E) (eA E s.heap.size)) args s 0 0 (eA E s.heap.size)) 0 [(0, .ref (eAd E 6)), (1, .ref (eAd E 5)), (2, .int x2)] [] μ := by
  unfold t_X0_greatestSize_0 at h
  refine v_lconst (v := (0 : Int64)) C dX0_greatestSize_0 (by decide) ?_
  refine v_lstore_n C [(3, .long (0 : Int64)), (0, .ref (eAd E 6)), (1, .ref (eAd E 5)), (2, .int x2)] rfl (by decide) rfl dX0_greatestSize_1 ?_
  refine v_iconst (v := (0 : Int32)) C dX0_greatestSize_2 (by decide) ?_
  refine v_istore C [(5, .int (0 : Int32)), (3, .long (0 : Int64)), (0, .ref (eAd E 6)), (1, .ref (eAd E 5)), (2, .int x2)] (by decide) rfl dX0_greatestSize_3 ?_
  refine v_sub C [2, 3, 4, 1, 0] rfl ?_
  exact hK5 _ _ _ _ h
set_option maxRecDepth 10000 in
set_option maxHeartbeats 4000000 in
theorem so_X0_greatestSize {l : Launch} {E : EvT} (x2 : Int32) (μ : MemT) (P : Int64 → MemT → Prop) (h : sp_X0_greatestSize x2 μ P) : MCl l E yX0_greatestSize cX0_greatestSize 6 (some .long) (rmN 1 24) [.ref (eAd E 6), .ref (eAd E 5), .int x2] μ P := by
  refine mc_entryl (by decide +kernel) (Nat.le_of_ble_eq_true rfl) (fun p e s m below meth c C hr => ?_)
  have h0 := h (fun x2_ x3_ x5_ μ => V p l e (rmN 1 24) s m ([.ref (eAd E 6), .ref (eAd E 5), .int x2] : List Value).toArray below meth c E 6 0 0 (MQ below (va_Ql P (wdP E) (eA E s.heap.size)) ([.ref (eAd E 6), .ref (eAd E 5), .int x2] : List Value).toArray s 0 0 (eA E s.heap.size)) 5 [(0, .ref (eAd E 6)), (1, .ref (eAd E 5)), (2, .int x2_), (3, .long x3_), (5, .int x5_)] [] μ) (fun x2 x3 x5 μ ht => so_X0_greatestSize_5 C hr (fun x2 x3 x5 μ hk => hk) x2 x3 x5 μ ht) 
  exact so_X0_greatestSize_0 C hr (fun x2 x3 x5 μ hk => hk) x2 μ h0
set_option maxRecDepth 10000 in
set_option maxHeartbeats 4000000 in
theorem so_X0_raise_3 {p : Program} {l : Launch} {e : Env} {s : State} {m : MethodId} {args : Array Value} {below : List Frame} {meth : Method} {c : Code} {E : EvT} {P : MemT → Prop} {a1 : Nat} (C : Cx p s m args meth c E cX0_raise 5 RX0) (hr : meth.sig.returnType = none) (hk_a1 : a1 < 77) (hd_a1 : mkd a1 = 1) {K3 : Int32 → Int32 → Int32 → MemT → Prop} (hK3 : ∀ (x2 : Int32) (x3 : Int32) (x4 : Int32) (μ : MemT), K3 x2 x3 x4 μ → V p l e (rmN 0 0) s m args below meth c E 5 0 0 (MQ below (va_Qv P (wdP E) (eA E s.heap.size)) args s 0 0 (eA E s.heap.size)) 3 [(0, .ref (eAd E 6)), (1, .ref (eAd E a1)), (2, .int x2), (3, .int x3), (4, .int x4)] [] μ) (x2 : Int32) (x3 : Int32) (x4 : Int32) (μ : MemT) (h : t_X0_raise_3 K3 P a1 x2 x3 x4 μ) : V p l e (rmN 0 0) s m args below meth c E 5 0 0 (MQ below (va_Qv P (wdP E) (eA E s.heap.size)) args s 0 0 (eA E s.heap.size)) 3 [(0, .ref (eAd E 6)), (1, .ref (eAd E a1)), (2, .int x2), (3, .int x3), (4, .int x4)] [] μ := by
  unfold t_X0_raise_3 at h
  refine v_iload C 4 rfl dX0_raise_3 ?_
  refine v_iload_n C 2 rfl rfl dX0_raise_5 ?_
  refine v_icmp_ge C 40 (by decide) dX0_raise_6 (fun q7 => ?_) (fun q7 => ?_)
  · replace h := h.1 q7
    exact v_vret C hr h dX0_raise_40
  · replace h := h.2 q7
    refine v_aload_n C 0 rfl rfl dX0_raise_9 ?_
    refine gf_X0_19 C dX0_raise_10 ?_
    refine v_aload_n C 1 rfl rfl dX0_raise_13 ?_
    refine v_iload C 4 rfl dX0_raise_14 ?_
    obtain ⟨b1, h⟩ := h
    refine v_iald C a1 hk_a1 hd_a1 b1 dX0_raise_16 ?_
    obtain ⟨b2, h⟩ := h
    refine v_iald C 36 (by decide) rfl b2 dX0_raise_17 ?_
    refine v_iload_n C 3 rfl rfl dX0_raise_18 ?_
    refine v_icmp_ne C 34 (by decide) dX0_raise_19 (fun q6 => ?_) (fun q6 => ?_)
    · replace h := h.1 q6
      refine v_iinc (v := (x4 + 1)) C 4 [(4, .int (x4 + 1)), (0, .ref (eAd E 6)), (1, .ref (eAd E a1)), (2, .int x2), (3, .int x3)] rfl rfl (by decide) rfl dX0_raise_34 ?_
      refine v_goto C 3 (by decide) dX0_raise_37 ?_
      refine v_sub C [1, 2, 3, 4, 0] rfl ?_
      exact hK3 _ _ _ _ h
    · replace h := h.2 q6
      refine v_aload_n C 0 rfl rfl dX0_raise_22 ?_
      refine gf_X0_19 C dX0_raise_23 ?_
      refine v_aload_n C 1 rfl rfl dX0_raise_26 ?_
      refine v_iload C 4 rfl dX0_raise_27 ?_
      obtain ⟨b3, h⟩ := h
      refine v_iald C a1 hk_a1 hd_a1 b3 dX0_raise_29 ?_
      refine v_iload_n C 3 rfl rfl dX0_raise_30 ?_
      refine v_iconst (v := (1 : Int32)) C dX0_raise_31 (by decide) ?_
      refine v_iadd C dX0_raise_32 ?_
      obtain ⟨b4, h⟩ := h
      refine v_iast C 36 (by decide) rfl b4 dX0_raise_33 ?_
      refine v_nmM (fun μ5 e_μ5 => ?_)
      replace h := h μ5 e_μ5
      refine v_iinc (v := (x4 + 1)) C 4 [(4, .int (x4 + 1)), (0, .ref (eAd E 6)), (1, .ref (eAd E a1)), (2, .int x2), (3, .int x3)] rfl rfl (by decide) rfl dX0_raise_34 ?_
      refine v_goto C 3 (by decide) dX0_raise_37 ?_
      refine v_sub C [1, 2, 3, 4, 0] rfl ?_
      exact hK3 _ _ _ _ h
set_option maxRecDepth 10000 in
set_option maxHeartbeats 4000000 in
theorem so_X0_raise_0 {p : Program} {l : Launch} {e : Env} {s : State} {m : MethodId} {args : Array Value} {below : List Frame} {meth : Method} {c : Code} {E : EvT} {P : MemT → Prop} {a1 : Nat} (C : Cx p s m args meth c E cX0_raise 5 RX0) (hr : meth.sig.returnType = none) (hk_a1 : a1 < 77) (hd_a1 : mkd a1 = 1) {K3 : Int32 → Int32 → Int32 → MemT → Prop} (hK3 : ∀ (x2 : Int32) (x3 : Int32) (x4 : Int32) (μ : MemT), K3 x2 x3 x4 μ → V p l e (rmN 0 0) s m args below meth c E 5 0 0 (MQ below (va_Qv P (wdP E) (eA E s.heap.size)) args s 0 0 (eA E s.heap.size)) 3 [(0, .ref (eAd E 6)), (1, .ref (eAd E a1)), (2, .int x2), (3, .int x3), (4, .int x4)] [] μ) (x2 : Int32) (x3 : Int32) (μ : MemT) (h : t_X0_raise_0 K3 P a1 x2 x3 μ) : V p l e (rmN 0 0) s m args below meth c E 5 0 0 (MQ below (va_Qv P (wdP E) (eA E s.heap.size)) args s 0 0 (eA E s.heap.size)) 0 [(0, .ref (eAd E 6)), (1, .ref (eAd E a1)), (2, .int x2), (3, .int x3)] [] μ := by
  unfold t_X0_raise_0 at h
  refine v_iconst (v := (0 : Int32)) C dX0_raise_0 (by decide) ?_
  refine v_istore C [(4, .int (0 : Int32)), (0, .ref (eAd E 6)), (1, .ref (eAd E a1)), (2, .int x2), (3, .int x3)] (by decide) rfl dX0_raise_1 ?_
  refine v_sub C [1, 2, 3, 4, 0] rfl ?_
  exact hK3 _ _ _ _ h
set_option maxRecDepth 10000 in
set_option maxHeartbeats 4000000 in
theorem so_X0_raise {l : Launch} {E : EvT} (a1 : Nat) (x2 : Int32) (x3 : Int32) (hk_a1 : a1 < 77) (hd_a1 : mkd a1 = 1) (μ : MemT) (P : MemT → Prop) (h : sp_X0_raise a1 x2 x3 μ P) : MCv l E yX0_raise cX0_raise 5 none (rmN 0 0) [.ref (eAd E 6), .ref (eAd E a1), .int x2, .int x3] μ P := by
  refine mc_entryv (by decide +kernel) (Nat.le_of_ble_eq_true rfl) (fun p e s m below meth c C hr => ?_)
  have h0 := h (fun x2_ x3_ x4_ μ => V p l e (rmN 0 0) s m ([.ref (eAd E 6), .ref (eAd E a1), .int x2, .int x3] : List Value).toArray below meth c E 5 0 0 (MQ below (va_Qv P (wdP E) (eA E s.heap.size)) ([.ref (eAd E 6), .ref (eAd E a1), .int x2, .int x3] : List Value).toArray s 0 0 (eA E s.heap.size)) 3 [(0, .ref (eAd E 6)), (1, .ref (eAd E a1)), (2, .int x2_), (3, .int x3_), (4, .int x4_)] [] μ) (fun x2 x3 x4 μ ht => so_X0_raise_3 C hr hk_a1 hd_a1 (fun x2 x3 x4 μ hk => hk) x2 x3 x4 μ ht) 
  exact so_X0_raise_0 C hr hk_a1 hd_a1 (fun x2 x3 x4 μ hk => hk) x2 x3 μ h0
set_option maxRecDepth 10000 in
set_option maxHeartbeats 4000000 in
theorem so_X0_isPartedAlong_74 {p : Program} {l : Launch} {e : Env} {s : State} {m : MethodId} {args : Array Value} {below : List Frame} {meth : Method} {c : Code} {E : EvT} {P : Int32 → MemT → Prop} {a1 : Nat} {a2 : Nat} {a3 : Nat} (C : Cx p s m args meth c E cX0_isPartedAlong 16 RX0) (hr : meth.sig.returnType = (some .boolean)) (hk_a1 : a1 < 77) (hd_a1 : mkd a1 = 1) (hk_a2 : a2 < 77) (hd_a2 : mkd a2 = 3) (hk_a3 : a3 < 77) (hd_a3 : mkd a3 = 3) {K18 : Int32 → Int64 → Int32 → Int32 → Int64 → Int64 → Int32 → Int32 → MemT → Prop} (hK18 : ∀ (x4 : Int32) (x5 : Int64) (x7 : Int32) (x8 : Int32) (x9 : Int64) (x11 : Int64) (x13 : Int32) (x14 : Int32) (μ : MemT), K18 x4 x5 x7 x8 x9 x11 x13 x14 μ → V p l e (rmN 1 24) s m args below meth c E 16 0 0 (MQ below (va_Qi P (wdP E) (eA E s.heap.size)) args s 0 0 (eA E s.heap.size)) 18 [(0, .ref (eAd E 6)), (1, .ref (eAd E a1)), (2, .ref (eAd E a2)), (3, .ref (eAd E a3)), (4, .int x4), (5, .long x5), (7, .int x7), (8, .int x8), (9, .long x9), (11, .long x11), (13, .int x13), (14, .int x14)] [] μ) (x4 : Int32) (x5 : Int64) (x7 : Int32) (x8 : Int32) (x9 : Int64) (x11 : Int64) (x13 : Int32) (x14 : Int32) (x15 : Int32) (μ : MemT) (h : t_X0_isPartedAlong_74 K18 P a1 a2 a3 x4 x5 x7 x8 x9 x11 x13 x14 x15 μ) : V p l e (rmN 1 24) s m args below meth c E 16 0 0 (MQ below (va_Qi P (wdP E) (eA E s.heap.size)) args s 0 0 (eA E s.heap.size)) 74 [(0, .ref (eAd E 6)), (1, .ref (eAd E a1)), (2, .ref (eAd E a2)), (3, .ref (eAd E a3)), (4, .int x4), (5, .long x5), (7, .int x7), (8, .int x8), (9, .long x9), (11, .long x11), (13, .int x13), (14, .int x14), (15, .int x15)] [] μ := by
  unfold t_X0_isPartedAlong_74 at h
  refine v_iload C 10 rfl dX0_isPartedAlong_74 ?_
  refine v_if_eq C 86 (by decide) dX0_isPartedAlong_76 (fun q4 => ?_) (fun q4 => ?_)
  · replace h := h.1 q4
    refine v_lload C 9 rfl dX0_isPartedAlong_86 ?_
    refine v_aload_n C 3 rfl rfl dX0_isPartedAlong_88 ?_
    refine v_iload C 12 rfl dX0_isPartedAlong_89 ?_
    obtain ⟨b1, h⟩ := h
    refine v_lald C a3 hk_a3 hd_a3 b1 dX0_isPartedAlong_91 ?_
    refine v_maxL C gl_X0_81 (by decide) (Nat.le_of_ble_eq_true rfl) (by decide) (by decide) gm_max_long dX0_isPartedAlong_92 ?_
    refine v_nmJ (fun z2 e_z2 => ?_)
    replace h := h z2 e_z2
    refine v_lstore C [(11, .long z2), (0, .ref (eAd E 6)), (1, .ref (eAd E a1)), (2, .ref (eAd E a2)), (3, .ref (eAd E a3)), (4, .int x4), (5, .long x5), (7, .int x7), (8, .int x8), (9, .long x9), (13, .int x13), (14, .int x14), (15, .int x15)] (by decide) rfl dX0_isPartedAlong_95 ?_
    refine v_iconst (v := (0 : Int32)) C dX0_isPartedAlong_97 (by decide) ?_
    refine v_istore C [(13, .int (0 : Int32)), (11, .long z2), (0, .ref (eAd E 6)), (1, .ref (eAd E a1)), (2, .ref (eAd E a2)), (3, .ref (eAd E a3)), (4, .int x4), (5, .long x5), (7, .int x7), (8, .int x8), (9, .long x9), (14, .int x14), (15, .int x15)] (by decide) rfl dX0_isPartedAlong_98 ?_
    refine v_iinc (v := (x14 + 1)) C 11 [(14, .int (x14 + 1)), (13, .int (0 : Int32)), (11, .long z2), (0, .ref (eAd E 6)), (1, .ref (eAd E a1)), (2, .ref (eAd E a2)), (3, .ref (eAd E a3)), (4, .int x4), (5, .long x5), (7, .int x7), (8, .int x8), (9, .long x9), (15, .int x15)] rfl rfl (by decide) rfl dX0_isPartedAlong_100 ?_
    refine v_goto C 18 (by decide) dX0_isPartedAlong_103 ?_
    refine v_sub C [3, 4, 5, 6, 7, 8, 9, 10, 11, 2, 1, 0] rfl ?_
    exact hK18 _ _ _ _ _ _ _ _ _ h
  · replace h := h.2 q4
    refine v_aload_n C 3 rfl rfl dX0_isPartedAlong_79 ?_
    refine v_iload C 12 rfl dX0_isPartedAlong_80 ?_
    obtain ⟨b3, h⟩ := h
    refine v_lald C a3 hk_a3 hd_a3 b3 dX0_isPartedAlong_82 ?_
    refine v_goto C 95 (by decide) dX0_isPartedAlong_83 ?_
    refine v_lstore C [(11, .long (μ.2.1 a3 x15.toNatClampNeg)), (0, .ref (eAd E 6)), (1, .ref (eAd E a1)), (2, .ref (eAd E a2)), (3, .ref (eAd E a3)), (4, .int x4), (5, .long x5), (7, .int x7), (8, .int x8), (9, .long x9), (13, .int x13), (14, .int x14), (15, .int x15)] (by decide) rfl dX0_isPartedAlong_95 ?_
    refine v_iconst (v := (0 : Int32)) C dX0_isPartedAlong_97 (by decide) ?_
    refine v_istore C [(13, .int (0 : Int32)), (11, .long (μ.2.1 a3 x15.toNatClampNeg)), (0, .ref (eAd E 6)), (1, .ref (eAd E a1)), (2, .ref (eAd E a2)), (3, .ref (eAd E a3)), (4, .int x4), (5, .long x5), (7, .int x7), (8, .int x8), (9, .long x9), (14, .int x14), (15, .int x15)] (by decide) rfl dX0_isPartedAlong_98 ?_
    refine v_iinc (v := (x14 + 1)) C 11 [(14, .int (x14 + 1)), (13, .int (0 : Int32)), (11, .long (μ.2.1 a3 x15.toNatClampNeg)), (0, .ref (eAd E 6)), (1, .ref (eAd E a1)), (2, .ref (eAd E a2)), (3, .ref (eAd E a3)), (4, .int x4), (5, .long x5), (7, .int x7), (8, .int x8), (9, .long x9), (15, .int x15)] rfl rfl (by decide) rfl dX0_isPartedAlong_100 ?_
    refine v_goto C 18 (by decide) dX0_isPartedAlong_103 ?_
    refine v_sub C [3, 4, 5, 6, 7, 8, 9, 10, 11, 2, 1, 0] rfl ?_
    exact hK18 _ _ _ _ _ _ _ _ _ h
set_option maxRecDepth 10000 in
set_option maxHeartbeats 4000000 in
theorem so_X0_isPartedAlong_18 {p : Program} {l : Launch} {e : Env} {s : State} {m : MethodId} {args : Array Value} {below : List Frame} {meth : Method} {c : Code} {E : EvT} {P : Int32 → MemT → Prop} {a1 : Nat} {a2 : Nat} {a3 : Nat} (C : Cx p s m args meth c E cX0_isPartedAlong 16 RX0) (hr : meth.sig.returnType = (some .boolean)) (hk_a1 : a1 < 77) (hd_a1 : mkd a1 = 1) (hk_a2 : a2 < 77) (hd_a2 : mkd a2 = 3) (hk_a3 : a3 < 77) (hd_a3 : mkd a3 = 3) {K18 : Int32 → Int64 → Int32 → Int32 → Int64 → Int64 → Int32 → Int32 → MemT → Prop} (hK18 : ∀ (x4 : Int32) (x5 : Int64) (x7 : Int32) (x8 : Int32) (x9 : Int64) (x11 : Int64) (x13 : Int32) (x14 : Int32) (μ : MemT), K18 x4 x5 x7 x8 x9 x11 x13 x14 μ → V p l e (rmN 1 24) s m args below meth c E 16 0 0 (MQ below (va_Qi P (wdP E) (eA E s.heap.size)) args s 0 0 (eA E s.heap.size)) 18 [(0, .ref (eAd E 6)), (1, .ref (eAd E a1)), (2, .ref (eAd E a2)), (3, .ref (eAd E a3)), (4, .int x4), (5, .long x5), (7, .int x7), (8, .int x8), (9, .long x9), (11, .long x11), (13, .int x13), (14, .int x14)] [] μ) (x4 : Int32) (x5 : Int64) (x7 : Int32) (x8 : Int32) (x9 : Int64) (x11 : Int64) (x13 : Int32) (x14 : Int32) (μ : MemT) (h : t_X0_isPartedAlong_18 K18 P a1 a2 a3 x4 x5 x7 x8 x9 x11 x13 x14 μ) : V p l e (rmN 1 24) s m args below meth c E 16 0 0 (MQ below (va_Qi P (wdP E) (eA E s.heap.size)) args s 0 0 (eA E s.heap.size)) 18 [(0, .ref (eAd E 6)), (1, .ref (eAd E a1)), (2, .ref (eAd E a2)), (3, .ref (eAd E a3)), (4, .int x4), (5, .long x5), (7, .int x7), (8, .int x8), (9, .long x9), (11, .long x11), (13, .int x13), (14, .int x14)] [] μ := by
  unfold t_X0_isPartedAlong_18 at h
  refine v_iload C 11 rfl dX0_isPartedAlong_18 ?_
  refine v_iload C 4 rfl dX0_isPartedAlong_20 ?_
  refine v_icmp_ge C 106 (by decide) dX0_isPartedAlong_22 (fun q13 => ?_) (fun q13 => ?_)
  · replace h := h.1 q13
    refine v_aload_n C 0 rfl rfl dX0_isPartedAlong_106 ?_
    refine v_aload_n C 1 rfl rfl dX0_isPartedAlong_107 ?_
    refine v_iload C 7 rfl dX0_isPartedAlong_108 ?_
    refine v_iload C 6 rfl dX0_isPartedAlong_110 ?_
    obtain ⟨P1, hs, h⟩ := h
    refine v_callVv C 6 [.ref (eAd E a1), .int x8, .int x7] (by decide) rfl rfl rfl (so_X0_raise a1 x8 x7 hk_a1 hd_a1 μ P1 hs) gw_X0_87 rfl rfl dd_X0_raise ⟨by decide, by decide⟩ rfl rfl (Nat.le_of_ble_eq_true rfl) ⟨by decide, by decide⟩ dX0_isPartedAlong_112 (fun μ2 q3 => ?_)
    replace h := h μ2 q3
    refine v_iload C 7 rfl dX0_isPartedAlong_115 ?_
    refine v_if_lt C 124 (by decide) dX0_isPartedAlong_117 (fun q4 => ?_) (fun q4 => ?_)
    · replace h := h.1 q4
      refine v_iconst (v := (0 : Int32)) C dX0_isPartedAlong_124 (by decide) ?_
      exact v_zret C hr nb0 h dX0_isPartedAlong_125
    · replace h := h.2 q4
      refine v_iconst (v := (1 : Int32)) C dX0_isPartedAlong_120 (by decide) ?_
      refine v_goto C 125 (by decide) dX0_isPartedAlong_121 ?_
      exact v_zret C hr nb1 h dX0_isPartedAlong_125
  · replace h := h.2 q13
    refine v_aload_n C 1 rfl rfl dX0_isPartedAlong_25 ?_
    refine v_iload C 11 rfl dX0_isPartedAlong_26 ?_
    obtain ⟨b5, h⟩ := h
    refine v_iald C a1 hk_a1 hd_a1 b5 dX0_isPartedAlong_28 ?_
    refine v_istore C [(15, .int (μ.1 a1 x14.toNatClampNeg)), (0, .ref (eAd E 6)), (1, .ref (eAd E a1)), (2, .ref (eAd E a2)), (3, .ref (eAd E a3)), (4, .int x4), (5, .long x5), (7, .int x7), (8, .int x8), (9, .long x9), (11, .long x11), (13, .int x13), (14, .int x14)] (by decide) rfl dX0_isPartedAlong_29 ?_
    refine v_aload_n C 1 rfl rfl dX0_isPartedAlong_31 ?_
    refine gf_X0_19 C dX0_isPartedAlong_32 ?_
    refine v_iload C 0 rfl dX0_isPartedAlong_35 ?_
    obtain ⟨b6, h⟩ := h
    refine v_iald C 36 (by decide) rfl b6 dX0_isPartedAlong_37 ?_
    refine v_iload C 7 rfl dX0_isPartedAlong_38 ?_
    refine v_icmp_ne C 100 (by decide) dX0_isPartedAlong_40 (fun q12 => ?_) (fun q12 => ?_)
    · replace h := h.1 q12
      refine v_iinc (v := (x14 + 1)) C 12 [(14, .int (x14 + 1)), (15, .int (μ.1 a1 x14.toNatClampNeg)), (0, .ref (eAd E 6)), (1, .ref (eAd E a1)), (2, .ref (eAd E a2)), (3, .ref (eAd E a3)), (4, .int x4), (5, .long x5), (7, .int x7), (8, .int x8), (9, .long x9), (11, .long x11), (13, .int x13)] rfl rfl (by decide) rfl dX0_isPartedAlong_100 ?_
      refine v_goto C 18 (by decide) dX0_isPartedAlong_103 ?_
      refine v_sub C [2, 3, 4, 5, 6, 7, 8, 9, 10, 11, 12, 0] rfl ?_
      exact hK18 _ _ _ _ _ _ _ _ _ h
    · replace h := h.2 q12
      refine v_iload C 11 rfl dX0_isPartedAlong_43 ?_
      refine v_if_ne C 74 (by decide) dX0_isPartedAlong_45 (fun q11 => ?_) (fun q11 => ?_)
      · replace h := h.1 q11
        refine v_sub C [1, 2, 3, 4, 5, 6, 7, 8, 9, 10, 11, 12, 0] rfl ?_
        exact so_X0_isPartedAlong_74 C hr hk_a1 hd_a1 hk_a2 hd_a2 hk_a3 hd_a3 hK18 _ _ _ _ _ _ _ _ _ _ h
      · replace h := h.2 q11
        refine v_aload_n C 3 rfl rfl dX0_isPartedAlong_48 ?_
        refine v_iload C 0 rfl dX0_isPartedAlong_49 ?_
        obtain ⟨b7, h⟩ := h
        refine v_lald C a2 hk_a2 hd_a2 b7 dX0_isPartedAlong_51 ?_
        refine v_lload C 10 rfl dX0_isPartedAlong_52 ?_
        refine v_lsub C dX0_isPartedAlong_54 ?_
        refine v_lload C 9 rfl dX0_isPartedAlong_55 ?_
        refine v_lcmp_le C 74 (by decide) dX0_isPartedAlong_57 dX0_isPartedAlong_58 (fun q10 => ?_) (fun q10 => ?_)
        · replace h := h.1 q10
          refine v_sub C [1, 2, 3, 4, 5, 6, 7, 8, 9, 10, 11, 12, 0] rfl ?_
          exact so_X0_isPartedAlong_74 C hr hk_a1 hd_a1 hk_a2 hd_a2 hk_a3 hd_a3 hK18 _ _ _ _ _ _ _ _ _ _ h
        · replace h := h.2 q10
          refine v_aload_n C 3 rfl rfl dX0_isPartedAlong_61 ?_
          refine v_iload C 0 rfl dX0_isPartedAlong_62 ?_
          obtain ⟨b8, h⟩ := h
          refine v_lald C a2 hk_a2 hd_a2 b8 dX0_isPartedAlong_64 ?_
          refine v_lload C 10 rfl dX0_isPartedAlong_65 ?_
          refine v_lsub C dX0_isPartedAlong_67 ?_
          refine v_nmJ (fun z9 e_z9 => ?_)
          replace h := h z9 e_z9
          refine v_lstore C [(9, .long z9), (15, .int (μ.1 a1 x14.toNatClampNeg)), (0, .ref (eAd E 6)), (1, .ref (eAd E a1)), (2, .ref (eAd E a2)), (3, .ref (eAd E a3)), (4, .int x4), (5, .long x5), (7, .int x7), (8, .int x8), (11, .long x11), (13, .int x13), (14, .int x14)] (by decide) rfl dX0_isPartedAlong_68 ?_
          refine v_iload C 12 rfl dX0_isPartedAlong_70 ?_
          refine v_istore C [(8, .int x14), (9, .long z9), (15, .int (μ.1 a1 x14.toNatClampNeg)), (0, .ref (eAd E 6)), (1, .ref (eAd E a1)), (2, .ref (eAd E a2)), (3, .ref (eAd E a3)), (4, .int x4), (5, .long x5), (7, .int x7), (11, .long x11), (13, .int x13), (14, .int x14)] (by decide) rfl dX0_isPartedAlong_72 ?_
          refine v_sub C [3, 4, 5, 6, 7, 8, 9, 0, 1, 10, 11, 12, 2] rfl ?_
          exact so_X0_isPartedAlong_74 C hr hk_a1 hd_a1 hk_a2 hd_a2 hk_a3 hd_a3 hK18 _ _ _ _ _ _ _ _ _ _ h
set_option maxRecDepth 10000 in
set_option maxHeartbeats 4000000 in
theorem so_X0_isPartedAlong_0 {p : Program} {l : Launch} {e : Env} {s : State} {m : MethodId} {args : Array Value} {below : List Frame} {meth : Method} {c : Code} {E : EvT} {P : Int32 → MemT → Prop} {a1 : Nat} {a2 : Nat} {a3 : Nat} (C : Cx p s m args meth c E cX0_isPartedAlong 16 RX0) (hr : meth.sig.returnType = (some .boolean)) (hk_a1 : a1 < 77) (hd_a1 : mkd a1 = 1) (hk_a2 : a2 < 77) (hd_a2 : mkd a2 = 3) (hk_a3 : a3 < 77) (hd_a3 : mkd a3 = 3) {K18 : Int32 → Int64 → Int32 → Int32 → Int64 → Int64 → Int32 → Int32 → MemT → Prop} (hK18 : ∀ (x4 : Int32) (x5 : Int64) (x7 : Int32) (x8 : Int32) (x9 : Int64) (x11 : Int64) (x13 : Int32) (x14 : Int32) (μ : MemT), K18 x4 x5 x7 x8 x9 x11 x13 x14 μ → V p l e (rmN 1 24) s m args below meth c E 16 0 0 (MQ below (va_Qi P (wdP E) (eA E s.heap.size)) args s 0 0 (eA E s.heap.size)) 18 [(0, .ref (eAd E 6)), (1, .ref (eAd E a1)), (2, .ref (eAd E a2)), (3, .ref (eAd E a3)), (4, .int x4), (5, .long x5), (7, .int x7), (8, .int x8), (9, .long x9), (11, .long x11), (13, .int x13), (14, .int x14)] [] μ) (x4 : Int32) (x5 : Int64) (x7 : Int32) (μ : MemT) (h : t_X0_isPartedAlong_0 K18 P a1 a2 a3 x4 x5 x7 μ) : V p l e (rmN 1 24) s m args below meth c E 16 0 0 (MQ below (va_Qi P (wdP E) (eA E s.heap.size)) args s 0 0 (eA E s.heap.size)) 0 [(0, .ref (eAd E 6)), (1, .ref (eAd E a1)), (2, .ref (eAd E a2)), (3, .ref (eAd E a3)), (4, .int x4), (5, .long x5), (7, .int x7)] [] μ := by
  unfold t_X0_isPartedAlong_0 at h
  refine v_iconst (v := (-1 : Int32)) C dX0_isPartedAlong_0 (by decide) ?_
  refine v_istore C [(8, .int (-1 : Int32)), (0, .ref (eAd E 6)), (1, .ref (eAd E a1)), (2, .ref (eAd E a2)), (3, .ref (eAd E a3)), (4, .int x4), (5, .long x5), (7, .int x7)] (by decide) rfl dX0_isPartedAlong_1 ?_
  refine v_lload C 6 rfl dX0_isPartedAlong_3 ?_
  refine v_lconst (v := (1 : Int64)) C dX0_isPartedAlong_5 (by decide) ?_
  refine v_lsub C dX0_isPartedAlong_6 ?_
  refine v_lstore C [(9, .long (x5 - (1 : Int64))), (8, .int (-1 : Int32)), (0, .ref (eAd E 6)), (1, .ref (eAd E a1)), (2, .ref (eAd E a2)), (3, .ref (eAd E a3)), (4, .int x4), (5, .long x5), (7, .int x7)] (by decide) rfl dX0_isPartedAlong_7 ?_
  refine v_lconst (v := (0 : Int64)) C dX0_isPartedAlong_9 (by decide) ?_
  refine v_lstore C [(11, .long (0 : Int64)), (9, .long (x5 - (1 : Int64))), (8, .int (-1 : Int32)), (0, .ref (eAd E 6)), (1, .ref (eAd E a1)), (2, .ref (eAd E a2)), (3, .ref (eAd E a3)), (4, .int x4), (5, .long x5), (7, .int x7)] (by decide) rfl dX0_isPartedAlong_10 ?_
  refine v_iconst (v := (1 : Int32)) C dX0_isPartedAlong_12 (by decide) ?_
  refine v_istore C [(13, .int (1 : Int32)), (11, .long (0 : Int64)), (9, .long (x5 - (1 : Int64))), (8, .int (-1 : Int32)), (0, .ref (eAd E 6)), (1, .ref (eAd E a1)), (2, .ref (eAd E a2)), (3, .ref (eAd E a3)), (4, .int x4), (5, .long x5), (7, .int x7)] (by decide) rfl dX0_isPartedAlong_13 ?_
  refine v_iconst (v := (0 : Int32)) C dX0_isPartedAlong_15 (by decide) ?_
  refine v_istore C [(14, .int (0 : Int32)), (13, .int (1 : Int32)), (11, .long (0 : Int64)), (9, .long (x5 - (1 : Int64))), (8, .int (-1 : Int32)), (0, .ref (eAd E 6)), (1, .ref (eAd E a1)), (2, .ref (eAd E a2)), (3, .ref (eAd E a3)), (4, .int x4), (5, .long x5), (7, .int x7)] (by decide) rfl dX0_isPartedAlong_16 ?_
  refine v_sub C [5, 6, 7, 8, 9, 10, 11, 4, 3, 2, 1, 0] rfl ?_
  exact hK18 _ _ _ _ _ _ _ _ _ h
set_option maxRecDepth 10000 in
set_option maxHeartbeats 4000000 in
theorem so_X0_isPartedAlong {l : Launch} {E : EvT} (a1 : Nat) (a2 : Nat) (a3 : Nat) (x4 : Int32) (x5 : Int64) (x7 : Int32) (hk_a1 : a1 < 77) (hd_a1 : mkd a1 = 1) (hk_a2 : a2 < 77) (hd_a2 : mkd a2 = 3) (hk_a3 : a3 < 77) (hd_a3 : mkd a3 = 3) (μ : MemT) (P : Int32 → MemT → Prop) (h : sp_X0_isPartedAlong a1 a2 a3 x4 x5 x7 μ P) : MCi l E yX0_isPartedAlong cX0_isPartedAlong 16 (some .boolean) (rmN 1 24) [.ref (eAd E 6), .ref (eAd E a1), .ref (eAd E a2), .ref (eAd E a3), .int x4, .long x5, .int x7] μ P := by
  refine mc_entryi (by decide +kernel) (Nat.le_of_ble_eq_true rfl) (fun p e s m below meth c C hr => ?_)
  have h0 := h (fun x4_ x5_ x7_ x8_ x9_ x11_ x13_ x14_ μ => V p l e (rmN 1 24) s m ([.ref (eAd E 6), .ref (eAd E a1), .ref (eAd E a2), .ref (eAd E a3), .int x4, .long x5, .int x7] : List Value).toArray below meth c E 16 0 0 (MQ below (va_Qi P (wdP E) (eA E s.heap.size)) ([.ref (eAd E 6), .ref (eAd E a1), .ref (eAd E a2), .ref (eAd E a3), .int x4, .long x5, .int x7] : List Value).toArray s 0 0 (eA E s.heap.size)) 18 [(0, .ref (eAd E 6)), (1, .ref (eAd E a1)), (2, .ref (eAd E a2)), (3, .ref (eAd E a3)), (4, .int x4_), (5, .long x5_), (7, .int x7_), (8, .int x8_), (9, .long x9_), (11, .long x11_), (13, .int x13_), (14, .int x14_)] [] μ) (fun x4 x5 x7 x8 x9 x11 x13 x14 μ ht => so_X0_isPartedAlong_18 C hr hk_a1 hd_a1 hk_a2 hd_a2 hk_a3 hd_a3 (fun x4 x5 x7 x8 x9 x11 x13 x14 μ hk => hk) x4 x5 x7 x8 x9 x11 x13 x14 μ ht) 
  exact so_X0_isPartedAlong_0 C hr hk_a1 hd_a1 hk_a2 hd_a2 hk_a3 hd_a3 (fun x4 x5 x7 x8 x9 x11 x13 x14 μ hk => hk) x4 x5 x7 μ h0
set_option maxRecDepth 10000 in
set_option maxHeartbeats 4000000 in
theorem so_X0_isParted_0 {p : Program} {l : Launch} {e : Env} {s : State} {m : MethodId} {args : Array Value} {below : List Frame} {meth : Method} {c : Code} {E : EvT} {P : Int32 → MemT → Prop} (C : Cx p s m args meth c E cX0_isParted 6 RX0) (hr : meth.sig.returnType = (some .boolean)) (x2 : Int32) (μ : MemT) (h : t_X0_isParted_0 P x2 μ) : V p l e (rmN 2 59) s m args below meth c E 6 0 0 (MQ below (va_Qi P (wdP E) (eA E s.heap.size)) args s 0 0 (eA E s.heap.size)) 0 [(0, .ref (eAd E 6)), (1, .ref (eAd E 5)), (2, .int x2)] [] μ := by
  unfold t_X0_isParted_0 at h
  refine v_aload_n C 0 rfl rfl dX0_isParted_0 ?_
  refine v_aload_n C 1 rfl rfl dX0_isParted_1 ?_
  refine v_iload_n C 2 rfl rfl dX0_isParted_2 ?_
  obtain ⟨P1, hs, h⟩ := h
  refine v_callVl C 6 [.ref (eAd E 5), .int x2] (by decide) rfl rfl rfl (so_X0_greatestSize x2 μ P1 hs) gw_X0_62 rfl rfl dd_X0_greatestSize ⟨by decide, by decide⟩ rfl rfl (Nat.le_of_ble_eq_true rfl) ⟨by decide, by decide⟩ dX0_isParted_3 (fun r4 μ2 q3 => ?_)
  replace h := h r4 μ2 q3
  refine v_lstore_n C [(3, .long r4), (0, .ref (eAd E 6)), (1, .ref (eAd E 5)), (2, .int x2)] rfl (by decide) rfl dX0_isParted_6 ?_
  refine v_aload_n C 2 rfl rfl dX0_isParted_7 ?_
  refine gf_X0_34 C dX0_isParted_8 ?_
  refine v_istore C [(5, .int (μ2.2.2.1 4)), (3, .long r4), (0, .ref (eAd E 6)), (1, .ref (eAd E 5)), (2, .int x2)] (by decide) rfl dX0_isParted_11 ?_
  refine v_aload_n C 2 rfl rfl dX0_isParted_13 ?_
  refine v_aload_n C 2 rfl rfl dX0_isParted_14 ?_
  refine gf_X0_22 C dX0_isParted_15 ?_
  refine v_aload_n C 3 rfl rfl dX0_isParted_18 ?_
  refine gf_X0_28 C dX0_isParted_19 ?_
  refine v_aload_n C 3 rfl rfl dX0_isParted_22 ?_
  refine gf_X0_66 C dX0_isParted_23 ?_
  refine v_iload C 0 rfl dX0_isParted_26 ?_
  refine v_ldc2 C gc_X0_69 dX0_isParted_28 ?_
  refine v_lload_n C 1 rfl rfl dX0_isParted_31 ?_
  refine v_lmul C dX0_isParted_32 ?_
  refine v_iload_n C 4 rfl rfl dX0_isParted_33 ?_
  obtain ⟨P5, hs, h⟩ := h
  refine v_callVi C 6 [.ref (eAd E 37), .ref (eAd E 30), .ref (eAd E 31), .int (μ2.2.2.1 4), .long ((2 : Int64) * r4), .int x2] (by decide) rfl rfl rfl (so_X0_isPartedAlong 37 30 31 (μ2.2.2.1 4) ((2 : Int64) * r4) x2 (by decide) rfl (by decide) rfl (by decide) rfl μ2 P5 hs) gw_X0_71 rfl rfl dd_X0_isPartedAlong ⟨by decide, by decide⟩ rfl rfl (Nat.le_of_ble_eq_true rfl) ⟨by decide, by decide⟩ dX0_isParted_34 (fun r8 μ6 q7 => ?_)
  replace h := h r8 μ6 q7
  refine v_if_ne C 63 (by decide) dX0_isParted_37 (fun q14 => ?_) (fun q14 => ?_)
  · replace h := h.1 q14
    refine v_iconst (v := (1 : Int32)) C dX0_isParted_63 (by decide) ?_
    refine v_goto C 68 (by decide) dX0_isParted_64 ?_
    exact v_zret C hr nb1 h dX0_isParted_68
  · replace h := h.2 q14
    refine v_aload_n C 2 rfl rfl dX0_isParted_40 ?_
    refine v_aload_n C 2 rfl rfl dX0_isParted_41 ?_
    refine gf_X0_25 C dX0_isParted_42 ?_
    refine v_aload_n C 3 rfl rfl dX0_isParted_45 ?_
    refine gf_X0_39 C dX0_isParted_46 ?_
    refine v_aload_n C 3 rfl rfl dX0_isParted_49 ?_
    refine gf_X0_75 C dX0_isParted_50 ?_
    refine v_iload C 0 rfl dX0_isParted_53 ?_
    refine v_lload_n C 1 rfl rfl dX0_isParted_55 ?_
    refine v_iload_n C 4 rfl rfl dX0_isParted_56 ?_
    obtain ⟨P9, hs, h⟩ := h
    refine v_callVi C 6 [.ref (eAd E 38), .ref (eAd E 32), .ref (eAd E 33), .int (μ2.2.2.1 4), .long r4, .int x2] (by decide) rfl rfl rfl (so_X0_isPartedAlong 38 32 33 (μ2.2.2.1 4) r4 x2 (by decide) rfl (by decide) rfl (by decide) rfl μ6 P9 hs) gw_X0_71 rfl rfl dd_X0_isPartedAlong ⟨by decide, by decide⟩ rfl rfl (Nat.le_of_ble_eq_true rfl) ⟨by decide, by decide⟩ dX0_isParted_57 (fun r12 μ10 q11 => ?_)
    replace h := h r12 μ10 q11
    refine v_if_eq C 67 (by decide) dX0_isParted_60 (fun q13 => ?_) (fun q13 => ?_)
    · replace h := h.1 q13
      refine v_iconst (v := (0 : Int32)) C dX0_isParted_67 (by decide) ?_
      exact v_zret C hr nb0 h dX0_isParted_68
    · replace h := h.2 q13
      refine v_iconst (v := (1 : Int32)) C dX0_isParted_63 (by decide) ?_
      refine v_goto C 68 (by decide) dX0_isParted_64 ?_
      exact v_zret C hr nb1 h dX0_isParted_68
set_option maxRecDepth 10000 in
set_option maxHeartbeats 4000000 in
theorem so_X0_isParted {l : Launch} {E : EvT} (x2 : Int32) (μ : MemT) (P : Int32 → MemT → Prop) (h : sp_X0_isParted x2 μ P) : MCi l E yX0_isParted cX0_isParted 6 (some .boolean) (rmN 2 59) [.ref (eAd E 6), .ref (eAd E 5), .int x2] μ P := by
  refine mc_entryi (by decide +kernel) (Nat.le_of_ble_eq_true rfl) (fun p e s m below meth c C hr => ?_)
  exact so_X0_isParted_0 C hr x2 μ h
set_option maxRecDepth 10000 in
set_option maxHeartbeats 4000000 in
theorem so_X0_pileUp_48 {p : Program} {l : Launch} {e : Env} {s : State} {m : MethodId} {args : Array Value} {below : List Frame} {meth : Method} {c : Code} {E : EvT} {P : Int32 → MemT → Prop} (C : Cx p s m args meth c E cX0_pileUp 6 RX0) (hr : meth.sig.returnType = (some .int)) {K5 : Int32 → Int32 → Int32 → MemT → Prop} (hK5 : ∀ (x2 : Int32) (x3 : Int32) (x4 : Int32) (μ : MemT), K5 x2 x3 x4 μ → V p l e (rmN 0 0) s m args below meth c E 6 0 0 (MQ below (va_Qi P (wdP E) (eA E s.heap.size)) args s 0 0 (eA E s.heap.size)) 5 [(0, .ref (eAd E 6)), (1, .ref (eAd E 5)), (2, .int x2), (3, .int x3), (4, .int x4)] [] μ) (x2 : Int32) (x3 : Int32) (x4 : Int32) (x5 : Int32) (y1 : Int32) (y2 : Int32) (μ : MemT) (h : t_X0_pileUp_48 K5 P x2 x3 x4 x5 y1 y2 μ) : V p l e (rmN 0 0) s m args below meth c E 6 0 0 (MQ below (va_Qi P (wdP E) (eA E s.heap.size)) args s 0 0 (eA E s.heap.size)) 48 [(0, .ref (eAd E 6)), (1, .ref (eAd E 5)), (2, .int x2), (3, .int x3), (4, .int x4), (5, .int x5)] [.int y2, .int y1, .ref (eAd E 36)] μ := by
  unfold t_X0_pileUp_48 at h
  obtain ⟨b1, h⟩ := h
  refine v_iast C 36 (by decide) rfl b1 dX0_pileUp_48 ?_
  refine v_nmM (fun μ2 e_μ2 => ?_)
  replace h := h μ2 e_μ2
  refine v_iload C 5 rfl dX0_pileUp_49 ?_
  refine v_if_eq C 58 (by decide) dX0_pileUp_51 (fun q3 => ?_) (fun q3 => ?_)
  · replace h := h.1 q3
    refine v_iload_n C 3 rfl rfl dX0_pileUp_58 ?_
    refine v_istore_n C [(3, .int x3), (0, .ref (eAd E 6)), (1, .ref (eAd E 5)), (2, .int x2), (4, .int x4), (5, .int x5)] rfl (by decide) rfl dX0_pileUp_59 ?_
    refine v_iinc (v := (x4 + 1)) C 4 [(4, .int (x4 + 1)), (3, .int x3), (0, .ref (eAd E 6)), (1, .ref (eAd E 5)), (2, .int x2), (5, .int x5)] rfl rfl (by decide) rfl dX0_pileUp_60 ?_
    refine v_goto C 5 (by decide) dX0_pileUp_63 ?_
    refine v_sub C [2, 3, 4, 1, 0] rfl ?_
    exact hK5 _ _ _ _ h
  · replace h := h.2 q3
    refine v_iconst (v := (0 : Int32)) C dX0_pileUp_54 (by decide) ?_
    refine v_goto C 59 (by decide) dX0_pileUp_55 ?_
    refine v_istore_n C [(3, .int (0 : Int32)), (0, .ref (eAd E 6)), (1, .ref (eAd E 5)), (2, .int x2), (4, .int x4), (5, .int x5)] rfl (by decide) rfl dX0_pileUp_59 ?_
    refine v_iinc (v := (x4 + 1)) C 4 [(4, .int (x4 + 1)), (3, .int (0 : Int32)), (0, .ref (eAd E 6)), (1, .ref (eAd E 5)), (2, .int x2), (5, .int x5)] rfl rfl (by decide) rfl dX0_pileUp_60 ?_
    refine v_goto C 5 (by decide) dX0_pileUp_63 ?_
    refine v_sub C [2, 3, 4, 1, 0] rfl ?_
    exact hK5 _ _ _ _ h
set_option maxRecDepth 10000 in
set_option maxHeartbeats 4000000 in
theorem so_X0_pileUp_30 {p : Program} {l : Launch} {e : Env} {s : State} {m : MethodId} {args : Array Value} {below : List Frame} {meth : Method} {c : Code} {E : EvT} {P : Int32 → MemT → Prop} (C : Cx p s m args meth c E cX0_pileUp 6 RX0) (hr : meth.sig.returnType = (some .int)) {K5 : Int32 → Int32 → Int32 → MemT → Prop} (hK5 : ∀ (x2 : Int32) (x3 : Int32) (x4 : Int32) (μ : MemT), K5 x2 x3 x4 μ → V p l e (rmN 0 0) s m args below meth c E 6 0 0 (MQ below (va_Qi P (wdP E) (eA E s.heap.size)) args s 0 0 (eA E s.heap.size)) 5 [(0, .ref (eAd E 6)), (1, .ref (eAd E 5)), (2, .int x2), (3, .int x3), (4, .int x4)] [] μ) (x2 : Int32) (x3 : Int32) (x4 : Int32) (y0 : Int32) (μ : MemT) (h : t_X0_pileUp_30 K5 P x2 x3 x4 y0 μ) : V p l e (rmN 0 0) s m args below meth c E 6 0 0 (MQ below (va_Qi P (wdP E) (eA E s.heap.size)) args s 0 0 (eA E s.heap.size)) 30 [(0, .ref (eAd E 6)), (1, .ref (eAd E 5)), (2, .int x2), (3, .int x3), (4, .int x4)] [.int y0] μ := by
  unfold t_X0_pileUp_30 at h
  refine v_istore C [(5, .int y0), (0, .ref (eAd E 6)), (1, .ref (eAd E 5)), (2, .int x2), (3, .int x3), (4, .int x4)] (by decide) rfl dX0_pileUp_30 ?_
  refine v_aload_n C 1 rfl rfl dX0_pileUp_32 ?_
  refine gf_X0_19 C dX0_pileUp_33 ?_
  refine v_iload C 5 rfl dX0_pileUp_36 ?_
  refine v_iload C 0 rfl dX0_pileUp_38 ?_
  refine v_if_eq C 47 (by decide) dX0_pileUp_40 (fun q1 => ?_) (fun q1 => ?_)
  · replace h := h.1 q1
    refine v_iconst (v := (-1 : Int32)) C dX0_pileUp_47 (by decide) ?_
    refine v_sub C [1, 2, 3, 4, 5, 0] rfl ?_
    exact so_X0_pileUp_48 C hr hK5 _ _ _ _ _ _ _ h
  · replace h := h.2 q1
    refine v_iconst (v := (0 : Int32)) C dX0_pileUp_43 (by decide) ?_
    refine v_goto C 48 (by decide) dX0_pileUp_44 ?_
    refine v_sub C [1, 2, 3, 4, 5, 0] rfl ?_
    exact so_X0_pileUp_48 C hr hK5 _ _ _ _ _ _ _ h
set_option maxRecDepth 10000 in
set_option maxHeartbeats 4000000 in
theorem so_X0_pileUp_5 {p : Program} {l : Launch} {e : Env} {s : State} {m : MethodId} {args : Array Value} {below : List Frame} {meth : Method} {c : Code} {E : EvT} {P : Int32 → MemT → Prop} (C : Cx p s m args meth c E cX0_pileUp 6 RX0) (hr : meth.sig.returnType = (some .int)) {K5 : Int32 → Int32 → Int32 → MemT → Prop} (hK5 : ∀ (x2 : Int32) (x3 : Int32) (x4 : Int32) (μ : MemT), K5 x2 x3 x4 μ → V p l e (rmN 0 0) s m args below meth c E 6 0 0 (MQ below (va_Qi P (wdP E) (eA E s.heap.size)) args s 0 0 (eA E s.heap.size)) 5 [(0, .ref (eAd E 6)), (1, .ref (eAd E 5)), (2, .int x2), (3, .int x3), (4, .int x4)] [] μ) (x2 : Int32) (x3 : Int32) (x4 : Int32) (μ : MemT) (h : t_X0_pileUp_5 K5 P x2 x3 x4 μ) : V p l e (rmN 0 0) s m args below meth c E 6 0 0 (MQ below (va_Qi P (wdP E) (eA E s.heap.size)) args s 0 0 (eA E s.heap.size)) 5 [(0, .ref (eAd E 6)), (1, .ref (eAd E 5)), (2, .int x2), (3, .int x3), (4, .int x4)] [] μ := by
  unfold t_X0_pileUp_5 at h
  refine v_iload C 4 rfl dX0_pileUp_5 ?_
  refine v_aload_n C 1 rfl rfl dX0_pileUp_7 ?_
  refine gf_X0_34 C dX0_pileUp_8 ?_
  refine v_icmp_ge C 66 (by decide) dX0_pileUp_11 (fun q3 => ?_) (fun q3 => ?_)
  · replace h := h.1 q3
    refine v_iload_n C 3 rfl rfl dX0_pileUp_66 ?_
    exact v_iret C hr h dX0_pileUp_67
  · replace h := h.2 q3
    refine v_aload_n C 1 rfl rfl dX0_pileUp_14 ?_
    refine gf_X0_58 C dX0_pileUp_15 ?_
    refine v_iload C 4 rfl dX0_pileUp_18 ?_
    obtain ⟨b1, h⟩ := h
    refine v_zald C 29 (by decide) rfl b1 dX0_pileUp_20 ?_
    refine v_iload_n C 2 rfl rfl dX0_pileUp_21 ?_
    refine v_icmp_ne C 29 (by decide) dX0_pileUp_22 (fun q2 => ?_) (fun q2 => ?_)
    · replace h := h.1 q2
      refine v_iconst (v := (0 : Int32)) C dX0_pileUp_29 (by decide) ?_
      exact so_X0_pileUp_30 C hr hK5 _ _ _ _ _ h
    · replace h := h.2 q2
      refine v_iconst (v := (1 : Int32)) C dX0_pileUp_25 (by decide) ?_
      refine v_goto C 30 (by decide) dX0_pileUp_26 ?_
      exact so_X0_pileUp_30 C hr hK5 _ _ _ _ _ h
set_option maxRecDepth 10000 in
set_option maxHeartbeats 4000000 in
theorem so_X0_pileUp_0 {p : Program} {l : Launch} {e : Env} {s : State} {m : MethodId} {args : Array Value} {below : List Frame} {meth : Method} {c : Code} {E : EvT} {P : Int32 → MemT → Prop} (C : Cx p s m args meth c E cX0_pileUp 6 RX0) (hr : meth.sig.returnType = (some .int)) {K5 : Int32 → Int32 → Int32 → MemT → Prop} (hK5 : ∀ (x2 : Int32) (x3 : Int32) (x4 : Int32) (μ : MemT), K5 x2 x3 x4 μ → V p l e (rmN 0 0) s m args below meth c E 6 0 0 (MQ below (va_Qi P (wdP E) (eA E s.heap.size)) args s 0 0 (eA E s.heap.size)) 5 [(0, .ref (eAd E 6)), (1, .ref (eAd E 5)), (2, .int x2), (3, .int x3), (4, .int x4)] [] μ) (x2 : Int32) (μ : MemT) (h : t_X0_pileUp_0 K5 P x2 μ) : V p l e (rmN 0 0) s m args below meth c E 6 0 0 (MQ below (va_Qi P (wdP E) (eA E s.heap.size)) args s 0 0 (eA E s.heap.size)) 0 [(0, .ref (eAd E 6)), (1, .ref (eAd E 5)), (2, .int x2)] [] μ := by
  unfold t_X0_pileUp_0 at h
  refine v_iconst (v := (-1 : Int32)) C dX0_pileUp_0 (by decide) ?_
  refine v_istore_n C [(3, .int (-1 : Int32)), (0, .ref (eAd E 6)), (1, .ref (eAd E 5)), (2, .int x2)] rfl (by decide) rfl dX0_pileUp_1 ?_
  refine v_iconst (v := (0 : Int32)) C dX0_pileUp_2 (by decide) ?_
  refine v_istore C [(4, .int (0 : Int32)), (3, .int (-1 : Int32)), (0, .ref (eAd E 6)), (1, .ref (eAd E 5)), (2, .int x2)] (by decide) rfl dX0_pileUp_3 ?_
  refine v_sub C [2, 3, 4, 1, 0] rfl ?_
  exact hK5 _ _ _ _ h
set_option maxRecDepth 10000 in
set_option maxHeartbeats 4000000 in
theorem so_X0_pileUp {l : Launch} {E : EvT} (x2 : Int32) (μ : MemT) (P : Int32 → MemT → Prop) (h : sp_X0_pileUp x2 μ P) : MCi l E yX0_pileUp cX0_pileUp 6 (some .int) (rmN 0 0) [.ref (eAd E 6), .ref (eAd E 5), .int x2] μ P := by
  refine mc_entryi (by decide +kernel) (Nat.le_of_ble_eq_true rfl) (fun p e s m below meth c C hr => ?_)
  have h0 := h (fun x2_ x3_ x4_ μ => V p l e (rmN 0 0) s m ([.ref (eAd E 6), .ref (eAd E 5), .int x2] : List Value).toArray below meth c E 6 0 0 (MQ below (va_Qi P (wdP E) (eA E s.heap.size)) ([.ref (eAd E 6), .ref (eAd E 5), .int x2] : List Value).toArray s 0 0 (eA E s.heap.size)) 5 [(0, .ref (eAd E 6)), (1, .ref (eAd E 5)), (2, .int x2_), (3, .int x3_), (4, .int x4_)] [] μ) (fun x2 x3 x4 μ ht => so_X0_pileUp_5 C hr (fun x2 x3 x4 μ hk => hk) x2 x3 x4 μ ht) 
  exact so_X0_pileUp_0 C hr (fun x2 x3 x4 μ hk => hk) x2 μ h0
set_option maxRecDepth 10000 in
set_option maxHeartbeats 4000000 in
theorem so_X0_arrangeKind_10 {p : Program} {l : Launch} {e : Env} {s : State} {m : MethodId} {args : Array Value} {below : List Frame} {meth : Method} {c : Code} {E : EvT} {P : MemT → Prop} (C : Cx p s m args meth c E cX0_arrangeKind 5 RX0) (hr : meth.sig.returnType = none) {K10 : Int32 → Int32 → Int32 → MemT → Prop} (hK10 : ∀ (x2 : Int32) (x3 : Int32) (x4 : Int32) (μ : MemT), K10 x2 x3 x4 μ → V p l e (rmN 3 84) s m args below meth c E 5 0 0 (MQ below (va_Qv P (wdP E) (eA E s.heap.size)) args s 0 0 (eA E s.heap.size)) 10 [(0, .ref (eAd E 6)), (1, .ref (eAd E 5)), (2, .int x2), (3, .int x3), (4, .int x4)] [] μ) (x2 : Int32) (x3 : Int32) (x4 : Int32) (μ : MemT) (h : t_X0_arrangeKind_10 K10 P x2 x3 x4 μ) : V p l e (rmN 3 84) s m args below meth c E 5 0 0 (MQ below (va_Qv P (wdP E) (eA E s.heap.size)) args s 0 0 (eA E s.heap.size)) 10 [(0, .ref (eAd E 6)), (1, .ref (eAd E 5)), (2, .int x2), (3, .int x3), (4, .int x4)] [] μ := by
  unfold t_X0_arrangeKind_10 at h
  refine v_iload C 4 rfl dX0_arrangeKind_10 ?_
  refine v_iconst (v := (2 : Int32)) C dX0_arrangeKind_12 (by decide) ?_
  refine v_aload_n C 1 rfl rfl dX0_arrangeKind_13 ?_
  refine gf_X0_34 C dX0_arrangeKind_14 ?_
  refine v_imul C dX0_arrangeKind_17 ?_
  refine v_icmp_ge C 55 (by decide) dX0_arrangeKind_18 (fun q10 => ?_) (fun q10 => ?_)
  · replace h := h.1 q10
    exact v_vret C hr h dX0_arrangeKind_55
  · replace h := h.2 q10
    refine v_iload_n C 3 rfl rfl dX0_arrangeKind_21 ?_
    refine v_if_lt C 55 (by decide) dX0_arrangeKind_22 (fun q9 => ?_) (fun q9 => ?_)
    · replace h := h.1 q9
      exact v_vret C hr h dX0_arrangeKind_55
    · replace h := h.2 q9
      refine v_aload_n C 0 rfl rfl dX0_arrangeKind_25 ?_
      refine v_aload_n C 1 rfl rfl dX0_arrangeKind_26 ?_
      refine v_iload_n C 3 rfl rfl dX0_arrangeKind_27 ?_
      obtain ⟨P1, hs, h⟩ := h
      refine v_callVi C 6 [.ref (eAd E 5), .int x3] (by decide) rfl rfl rfl (so_X0_isParted x3 μ P1 hs) gw_X0_50 rfl rfl dd_X0_isParted ⟨by decide, by decide⟩ rfl rfl (Nat.le_of_ble_eq_true rfl) ⟨by decide, by decide⟩ dX0_arrangeKind_28 (fun r4 μ2 q3 => ?_)
      replace h := h r4 μ2 q3
      refine v_if_eq C 40 (by decide) dX0_arrangeKind_31 (fun q8 => ?_) (fun q8 => ?_)
      · replace h := h.1 q8
        refine v_aload_n C 0 rfl rfl dX0_arrangeKind_40 ?_
        refine v_aload_n C 1 rfl rfl dX0_arrangeKind_41 ?_
        refine v_iload_n C 3 rfl rfl dX0_arrangeKind_42 ?_
        obtain ⟨P5, hs, h⟩ := h
        refine v_callVv C 6 [.ref (eAd E 5), .int x3] (by decide) rfl rfl rfl (so_X0_close x3 μ2 P5 hs) gw_X0_54 rfl rfl dd_X0_close ⟨by decide, by decide⟩ rfl rfl (Nat.le_of_ble_eq_true rfl) ⟨by decide, by decide⟩ dX0_arrangeKind_43 (fun μ6 q7 => ?_)
        replace h := h μ6 q7
        refine v_iinc (v := (x3 + (-1))) C 3 [(3, .int (x3 + (-1))), (0, .ref (eAd E 6)), (1, .ref (eAd E 5)), (2, .int x2), (4, .int x4)] rfl (by rw [iM1]) (by decide) rfl dX0_arrangeKind_46 ?_
        refine v_iinc (v := (x4 + 1)) C 4 [(4, .int (x4 + 1)), (3, .int (x3 + (-1))), (0, .ref (eAd E 6)), (1, .ref (eAd E 5)), (2, .int x2)] rfl rfl (by decide) rfl dX0_arrangeKind_49 ?_
        refine v_goto C 10 (by decide) dX0_arrangeKind_52 ?_
        refine v_sub C [2, 3, 4, 1, 0] rfl ?_
        exact hK10 _ _ _ _ h
      · replace h := h.2 q8
        refine v_iinc (v := (x3 + 1)) C 3 [(3, .int (x3 + 1)), (0, .ref (eAd E 6)), (1, .ref (eAd E 5)), (2, .int x2), (4, .int x4)] rfl rfl (by decide) rfl dX0_arrangeKind_34 ?_
        refine v_goto C 49 (by decide) dX0_arrangeKind_37 ?_
        refine v_iinc (v := (x4 + 1)) C 4 [(4, .int (x4 + 1)), (3, .int (x3 + 1)), (0, .ref (eAd E 6)), (1, .ref (eAd E 5)), (2, .int x2)] rfl rfl (by decide) rfl dX0_arrangeKind_49 ?_
        refine v_goto C 10 (by decide) dX0_arrangeKind_52 ?_
        refine v_sub C [2, 3, 4, 1, 0] rfl ?_
        exact hK10 _ _ _ _ h
set_option maxRecDepth 10000 in
set_option maxHeartbeats 4000000 in
theorem so_X0_arrangeKind_0 {p : Program} {l : Launch} {e : Env} {s : State} {m : MethodId} {args : Array Value} {below : List Frame} {meth : Method} {c : Code} {E : EvT} {P : MemT → Prop} (C : Cx p s m args meth c E cX0_arrangeKind 5 RX0) (hr : meth.sig.returnType = none) {K10 : Int32 → Int32 → Int32 → MemT → Prop} (hK10 : ∀ (x2 : Int32) (x3 : Int32) (x4 : Int32) (μ : MemT), K10 x2 x3 x4 μ → V p l e (rmN 3 84) s m args below meth c E 5 0 0 (MQ below (va_Qv P (wdP E) (eA E s.heap.size)) args s 0 0 (eA E s.heap.size)) 10 [(0, .ref (eAd E 6)), (1, .ref (eAd E 5)), (2, .int x2), (3, .int x3), (4, .int x4)] [] μ) (x2 : Int32) (μ : MemT) (h : t_X0_arrangeKind_0 K10 P x2 μ) : V p l e (rmN 3 84) s m args below meth c E 5 0 0 (MQ below (va_Qv P (wdP E) (eA E s.heap.size)) args s 0 0 (eA E s.heap.size)) 0 [(0, .ref (eAd E 6)), (1, .ref (eAd E 5)), (2, .int x2)] [] μ := by
  unfold t_X0_arrangeKind_0 at h
  refine v_aload_n C 0 rfl rfl dX0_arrangeKind_0 ?_
  refine v_aload_n C 1 rfl rfl dX0_arrangeKind_1 ?_
  refine v_iload_n C 2 rfl rfl dX0_arrangeKind_2 ?_
  obtain ⟨P1, hs, h⟩ := h
  refine v_callVi C 6 [.ref (eAd E 5), .int x2] (by decide) rfl rfl rfl (so_X0_pileUp x2 μ P1 hs) gw_X0_46 rfl rfl dd_X0_pileUp ⟨by decide, by decide⟩ rfl rfl (Nat.le_of_ble_eq_true rfl) ⟨by decide, by decide⟩ dX0_arrangeKind_3 (fun r4 μ2 q3 => ?_)
  replace h := h r4 μ2 q3
  refine v_istore_n C [(3, .int r4), (0, .ref (eAd E 6)), (1, .ref (eAd E 5)), (2, .int x2)] rfl (by decide) rfl dX0_arrangeKind_6 ?_
  refine v_iconst (v := (0 : Int32)) C dX0_arrangeKind_7 (by decide) ?_
  refine v_istore C [(4, .int (0 : Int32)), (3, .int r4), (0, .ref (eAd E 6)), (1, .ref (eAd E 5)), (2, .int x2)] (by decide) rfl dX0_arrangeKind_8 ?_
  refine v_sub C [2, 3, 4, 1, 0] rfl ?_
  exact hK10 _ _ _ _ h
set_option maxRecDepth 10000 in
set_option maxHeartbeats 4000000 in
theorem so_X0_arrangeKind {l : Launch} {E : EvT} (x2 : Int32) (μ : MemT) (P : MemT → Prop) (h : sp_X0_arrangeKind x2 μ P) : MCv l E yX0_arrangeKind cX0_arrangeKind 5 none (rmN 3 84) [.ref (eAd E 6), .ref (eAd E 5), .int x2] μ P := by
  refine mc_entryv (by decide +kernel) (Nat.le_of_ble_eq_true rfl) (fun p e s m below meth c C hr => ?_)
  have h0 := h (fun x2_ x3_ x4_ μ => V p l e (rmN 3 84) s m ([.ref (eAd E 6), .ref (eAd E 5), .int x2] : List Value).toArray below meth c E 5 0 0 (MQ below (va_Qv P (wdP E) (eA E s.heap.size)) ([.ref (eAd E 6), .ref (eAd E 5), .int x2] : List Value).toArray s 0 0 (eA E s.heap.size)) 10 [(0, .ref (eAd E 6)), (1, .ref (eAd E 5)), (2, .int x2_), (3, .int x3_), (4, .int x4_)] [] μ) (fun x2 x3 x4 μ ht => so_X0_arrangeKind_10 C hr (fun x2 x3 x4 μ hk => hk) x2 x3 x4 μ ht) 
  exact so_X0_arrangeKind_0 C hr (fun x2 x3 x4 μ hk => hk) x2 μ h0
set_option maxRecDepth 10000 in
set_option maxHeartbeats 4000000 in
theorem so_X0_sort_13 {p : Program} {l : Launch} {e : Env} {s : State} {m : MethodId} {args : Array Value} {below : List Frame} {meth : Method} {c : Code} {E : EvT} {P : MemT → Prop} {a1 : Nat} {a2 : Nat} (C : Cx p s m args meth c E cX0_sort 6 RX0) (hr : meth.sig.returnType = none) (hk_a1 : a1 < 77) (hd_a1 : mkd a1 = 1) (hk_a2 : a2 < 77) (hd_a2 : mkd a2 = 3) {K3 : Int32 → Int32 → MemT → Prop} (hK3 : ∀ (x3 : Int32) (x4 : Int32) (μ : MemT), K3 x3 x4 μ → V p l e (rmN 0 0) s m args below meth c E 6 0 0 (MQ below (va_Qv P (wdP E) (eA E s.heap.size)) args s 0 0 (eA E s.heap.size)) 3 [(0, .ref (eAd E 6)), (1, .ref (eAd E a1)), (2, .ref (eAd E a2)), (3, .int x3), (4, .int x4)] [] μ) {K13 : Int32 → Int32 → Int32 → MemT → Prop} (hK13 : ∀ (x3 : Int32) (x4 : Int32) (x5 : Int32) (μ : MemT), K13 x3 x4 x5 μ → V p l e (rmN 0 0) s m args below meth c E 6 0 0 (MQ below (va_Qv P (wdP E) (eA E s.heap.size)) args s 0 0 (eA E s.heap.size)) 13 [(0, .ref (eAd E 6)), (1, .ref (eAd E a1)), (2, .ref (eAd E a2)), (3, .int x3), (4, .int x4), (5, .int x5)] [] μ) (x3 : Int32) (x4 : Int32) (x5 : Int32) (μ : MemT) (h : t_X0_sort_13 K3 K13 P a1 a2 x3 x4 x5 μ) : V p l e (rmN 0 0) s m args below meth c E 6 0 0 (MQ below (va_Qv P (wdP E) (eA E s.heap.size)) args s 0 0 (eA E s.heap.size)) 13 [(0, .ref (eAd E 6)), (1, .ref (eAd E a1)), (2, .ref (eAd E a2)), (3, .int x3), (4, .int x4), (5, .int x5)] [] μ := by
  unfold t_X0_sort_13 at h
  refine v_iload C 5 rfl dX0_sort_13 ?_
  refine v_if_le C 50 (by decide) dX0_sort_15 (fun q12 => ?_) (fun q12 => ?_)
  · replace h := h.1 q12
    refine v_aload_n C 1 rfl rfl dX0_sort_50 ?_
    refine v_iload C 5 rfl dX0_sort_51 ?_
    refine v_iload C 4 rfl dX0_sort_53 ?_
    obtain ⟨b1, h⟩ := h
    refine v_iast C a1 hk_a1 hd_a1 b1 dX0_sort_55 ?_
    refine v_nmM (fun μ2 e_μ2 => ?_)
    replace h := h μ2 e_μ2
    refine v_iinc (v := (x4 + 1)) C 4 [(4, .int (x4 + 1)), (0, .ref (eAd E 6)), (1, .ref (eAd E a1)), (2, .ref (eAd E a2)), (3, .int x3), (5, .int x5)] rfl rfl (by decide) rfl dX0_sort_56 ?_
    refine v_goto C 3 (by decide) dX0_sort_59 ?_
    refine v_sub C [1, 2, 3, 4, 0] rfl ?_
    exact hK3 _ _ _ h
  · replace h := h.2 q12
    refine v_aload_n C 2 rfl rfl dX0_sort_18 ?_
    refine v_aload_n C 1 rfl rfl dX0_sort_19 ?_
    refine v_iload C 5 rfl dX0_sort_20 ?_
    refine v_iconst (v := (1 : Int32)) C dX0_sort_22 (by decide) ?_
    refine v_isub C dX0_sort_23 ?_
    obtain ⟨b3, h⟩ := h
    refine v_iald C a1 hk_a1 hd_a1 b3 dX0_sort_24 ?_
    obtain ⟨b4, h⟩ := h
    refine v_lald C a2 hk_a2 hd_a2 b4 dX0_sort_25 ?_
    refine v_aload_n C 2 rfl rfl dX0_sort_26 ?_
    refine v_iload C 4 rfl dX0_sort_27 ?_
    obtain ⟨b5, h⟩ := h
    refine v_lald C a2 hk_a2 hd_a2 b5 dX0_sort_29 ?_
    refine v_lcmp_le C 50 (by decide) dX0_sort_30 dX0_sort_31 (fun q11 => ?_) (fun q11 => ?_)
    · replace h := h.1 q11
      refine v_aload_n C 1 rfl rfl dX0_sort_50 ?_
      refine v_iload C 5 rfl dX0_sort_51 ?_
      refine v_iload C 4 rfl dX0_sort_53 ?_
      obtain ⟨b6, h⟩ := h
      refine v_iast C a1 hk_a1 hd_a1 b6 dX0_sort_55 ?_
      refine v_nmM (fun μ7 e_μ7 => ?_)
      replace h := h μ7 e_μ7
      refine v_iinc (v := (x4 + 1)) C 4 [(4, .int (x4 + 1)), (0, .ref (eAd E 6)), (1, .ref (eAd E a1)), (2, .ref (eAd E a2)), (3, .int x3), (5, .int x5)] rfl rfl (by decide) rfl dX0_sort_56 ?_
      refine v_goto C 3 (by decide) dX0_sort_59 ?_
      refine v_sub C [1, 2, 3, 4, 0] rfl ?_
      exact hK3 _ _ _ h
    · replace h := h.2 q11
      refine v_aload_n C 1 rfl rfl dX0_sort_34 ?_
      refine v_iload C 5 rfl dX0_sort_35 ?_
      refine v_aload_n C 1 rfl rfl dX0_sort_37 ?_
      refine v_iload C 5 rfl dX0_sort_38 ?_
      refine v_iconst (v := (1 : Int32)) C dX0_sort_40 (by decide) ?_
      refine v_isub C dX0_sort_41 ?_
      obtain ⟨b8, h⟩ := h
      refine v_iald C a1 hk_a1 hd_a1 b8 dX0_sort_42 ?_
      obtain ⟨b9, h⟩ := h
      refine v_iast C a1 hk_a1 hd_a1 b9 dX0_sort_43 ?_
      refine v_nmM (fun μ10 e_μ10 => ?_)
      replace h := h μ10 e_μ10
      refine v_iinc (v := (x5 + (-1))) C 5 [(5, .int (x5 + (-1))), (0, .ref (eAd E 6)), (1, .ref (eAd E a1)), (2, .ref (eAd E a2)), (3, .int x3), (4, .int x4)] rfl (by rw [iM1]) (by decide) rfl dX0_sort_44 ?_
      refine v_goto C 13 (by decide) dX0_sort_47 ?_
      refine v_sub C [1, 2, 3, 4, 5, 0] rfl ?_
      exact hK13 _ _ _ _ h
set_option maxRecDepth 10000 in
set_option maxHeartbeats 4000000 in
theorem so_X0_sort_3 {p : Program} {l : Launch} {e : Env} {s : State} {m : MethodId} {args : Array Value} {below : List Frame} {meth : Method} {c : Code} {E : EvT} {P : MemT → Prop} {a1 : Nat} {a2 : Nat} (C : Cx p s m args meth c E cX0_sort 6 RX0) (hr : meth.sig.returnType = none) (hk_a1 : a1 < 77) (hd_a1 : mkd a1 = 1) (hk_a2 : a2 < 77) (hd_a2 : mkd a2 = 3) {K3 : Int32 → Int32 → MemT → Prop} (hK3 : ∀ (x3 : Int32) (x4 : Int32) (μ : MemT), K3 x3 x4 μ → V p l e (rmN 0 0) s m args below meth c E 6 0 0 (MQ below (va_Qv P (wdP E) (eA E s.heap.size)) args s 0 0 (eA E s.heap.size)) 3 [(0, .ref (eAd E 6)), (1, .ref (eAd E a1)), (2, .ref (eAd E a2)), (3, .int x3), (4, .int x4)] [] μ) {K13 : Int32 → Int32 → Int32 → MemT → Prop} (hK13 : ∀ (x3 : Int32) (x4 : Int32) (x5 : Int32) (μ : MemT), K13 x3 x4 x5 μ → V p l e (rmN 0 0) s m args below meth c E 6 0 0 (MQ below (va_Qv P (wdP E) (eA E s.heap.size)) args s 0 0 (eA E s.heap.size)) 13 [(0, .ref (eAd E 6)), (1, .ref (eAd E a1)), (2, .ref (eAd E a2)), (3, .int x3), (4, .int x4), (5, .int x5)] [] μ) (x3 : Int32) (x4 : Int32) (μ : MemT) (h : t_X0_sort_3 K3 K13 P a1 a2 x3 x4 μ) : V p l e (rmN 0 0) s m args below meth c E 6 0 0 (MQ below (va_Qv P (wdP E) (eA E s.heap.size)) args s 0 0 (eA E s.heap.size)) 3 [(0, .ref (eAd E 6)), (1, .ref (eAd E a1)), (2, .ref (eAd E a2)), (3, .int x3), (4, .int x4)] [] μ := by
  unfold t_X0_sort_3 at h
  refine v_iload C 4 rfl dX0_sort_3 ?_
  refine v_iload_n C 3 rfl rfl dX0_sort_5 ?_
  refine v_icmp_ge C 62 (by decide) dX0_sort_6 (fun q1 => ?_) (fun q1 => ?_)
  · replace h := h.1 q1
    exact v_vret C hr h dX0_sort_62
  · replace h := h.2 q1
    refine v_iload C 4 rfl dX0_sort_9 ?_
    refine v_istore C [(5, .int x4), (0, .ref (eAd E 6)), (1, .ref (eAd E a1)), (2, .ref (eAd E a2)), (3, .int x3), (4, .int x4)] (by decide) rfl dX0_sort_11 ?_
    refine v_sub C [1, 2, 3, 4, 5, 0] rfl ?_
    exact hK13 _ _ _ _ h
set_option maxRecDepth 10000 in
set_option maxHeartbeats 4000000 in
theorem so_X0_sort_0 {p : Program} {l : Launch} {e : Env} {s : State} {m : MethodId} {args : Array Value} {below : List Frame} {meth : Method} {c : Code} {E : EvT} {P : MemT → Prop} {a1 : Nat} {a2 : Nat} (C : Cx p s m args meth c E cX0_sort 6 RX0) (hr : meth.sig.returnType = none) (hk_a1 : a1 < 77) (hd_a1 : mkd a1 = 1) (hk_a2 : a2 < 77) (hd_a2 : mkd a2 = 3) {K3 : Int32 → Int32 → MemT → Prop} (hK3 : ∀ (x3 : Int32) (x4 : Int32) (μ : MemT), K3 x3 x4 μ → V p l e (rmN 0 0) s m args below meth c E 6 0 0 (MQ below (va_Qv P (wdP E) (eA E s.heap.size)) args s 0 0 (eA E s.heap.size)) 3 [(0, .ref (eAd E 6)), (1, .ref (eAd E a1)), (2, .ref (eAd E a2)), (3, .int x3), (4, .int x4)] [] μ) {K13 : Int32 → Int32 → Int32 → MemT → Prop} (hK13 : ∀ (x3 : Int32) (x4 : Int32) (x5 : Int32) (μ : MemT), K13 x3 x4 x5 μ → V p l e (rmN 0 0) s m args below meth c E 6 0 0 (MQ below (va_Qv P (wdP E) (eA E s.heap.size)) args s 0 0 (eA E s.heap.size)) 13 [(0, .ref (eAd E 6)), (1, .ref (eAd E a1)), (2, .ref (eAd E a2)), (3, .int x3), (4, .int x4), (5, .int x5)] [] μ) (x3 : Int32) (μ : MemT) (h : t_X0_sort_0 K3 K13 P a1 a2 x3 μ) : V p l e (rmN 0 0) s m args below meth c E 6 0 0 (MQ below (va_Qv P (wdP E) (eA E s.heap.size)) args s 0 0 (eA E s.heap.size)) 0 [(0, .ref (eAd E 6)), (1, .ref (eAd E a1)), (2, .ref (eAd E a2)), (3, .int x3)] [] μ := by
  unfold t_X0_sort_0 at h
  refine v_iconst (v := (0 : Int32)) C dX0_sort_0 (by decide) ?_
  refine v_istore C [(4, .int (0 : Int32)), (0, .ref (eAd E 6)), (1, .ref (eAd E a1)), (2, .ref (eAd E a2)), (3, .int x3)] (by decide) rfl dX0_sort_1 ?_
  refine v_sub C [1, 2, 3, 4, 0] rfl ?_
  exact hK3 _ _ _ h
set_option maxRecDepth 10000 in
set_option maxHeartbeats 4000000 in
theorem so_X0_sort {l : Launch} {E : EvT} (a1 : Nat) (a2 : Nat) (x3 : Int32) (hk_a1 : a1 < 77) (hd_a1 : mkd a1 = 1) (hk_a2 : a2 < 77) (hd_a2 : mkd a2 = 3) (μ : MemT) (P : MemT → Prop) (h : sp_X0_sort a1 a2 x3 μ P) : MCv l E yX0_sort cX0_sort 6 none (rmN 0 0) [.ref (eAd E 6), .ref (eAd E a1), .ref (eAd E a2), .int x3] μ P := by
  refine mc_entryv (by decide +kernel) (Nat.le_of_ble_eq_true rfl) (fun p e s m below meth c C hr => ?_)
  have h0 := h (fun x3_ x4_ μ => V p l e (rmN 0 0) s m ([.ref (eAd E 6), .ref (eAd E a1), .ref (eAd E a2), .int x3] : List Value).toArray below meth c E 6 0 0 (MQ below (va_Qv P (wdP E) (eA E s.heap.size)) ([.ref (eAd E 6), .ref (eAd E a1), .ref (eAd E a2), .int x3] : List Value).toArray s 0 0 (eA E s.heap.size)) 3 [(0, .ref (eAd E 6)), (1, .ref (eAd E a1)), (2, .ref (eAd E a2)), (3, .int x3_), (4, .int x4_)] [] μ) (fun x3_ x4_ x5_ μ => V p l e (rmN 0 0) s m ([.ref (eAd E 6), .ref (eAd E a1), .ref (eAd E a2), .int x3] : List Value).toArray below meth c E 6 0 0 (MQ below (va_Qv P (wdP E) (eA E s.heap.size)) ([.ref (eAd E 6), .ref (eAd E a1), .ref (eAd E a2), .int x3] : List Value).toArray s 0 0 (eA E s.heap.size)) 13 [(0, .ref (eAd E 6)), (1, .ref (eAd E a1)), (2, .ref (eAd E a2)), (3, .int x3_), (4, .int x4_), (5, .int x5_)] [] μ) (fun x3 x4 μ ht => so_X0_sort_3 C hr hk_a1 hd_a1 hk_a2 hd_a2 (fun x3 x4 μ hk => hk) (fun x3 x4 x5 μ hk => hk) x3 x4 μ ht) (fun x3 x4 x5 μ ht => so_X0_sort_13 C hr hk_a1 hd_a1 hk_a2 hd_a2 (fun x3 x4 μ hk => hk) (fun x3 x4 x5 μ hk => hk) x3 x4 x5 μ ht) 
  exact so_X0_sort_0 C hr hk_a1 hd_a1 hk_a2 hd_a2 (fun x3 x4 μ hk => hk) (fun x3 x4 x5 μ hk => hk) x3 μ h0
set_option maxRecDepth 10000 in
set_option maxHeartbeats 4000000 in
theorem so_X0_arrange_0 {p : Program} {l : Launch} {e : Env} {s : State} {m : MethodId} {args : Array Value} {below : List Frame} {meth : Method} {c : Code} {E : EvT} {P : MemT → Prop} (C : Cx p s m args meth c E cX0_arrange 2 RX0) (hr : meth.sig.returnType = none) (μ : MemT) (h : t_X0_arrange_0 P  μ) : V p l e (rmN 4 108) s m args below meth c E 2 0 0 (MQ below (va_Qv P (wdP E) (eA E s.heap.size)) args s 0 0 (eA E s.heap.size)) 0 [(0, .ref (eAd E 6)), (1, .ref (eAd E 5))] [] μ := by
  unfold t_X0_arrange_0 at h
  refine v_aload_n C 0 rfl rfl dX0_arrange_0 ?_
  refine v_iconst (v := (0 : Int32)) C dX0_arrange_1 (by decide) ?_
  refine pf_X0_9 C dX0_arrange_2 ?_
  refine v_nmM (fun μ1 e_μ1 => ?_)
  replace h := h μ1 e_μ1
  refine v_aload_n C 0 rfl rfl dX0_arrange_5 ?_
  refine v_aload_n C 0 rfl rfl dX0_arrange_6 ?_
  refine gf_X0_22 C dX0_arrange_7 ?_
  refine v_aload_n C 1 rfl rfl dX0_arrange_10 ?_
  refine gf_X0_28 C dX0_arrange_11 ?_
  refine v_aload_n C 1 rfl rfl dX0_arrange_14 ?_
  refine gf_X0_34 C dX0_arrange_15 ?_
  obtain ⟨P2, hs, h⟩ := h
  refine v_callVv C 6 [.ref (eAd E 37), .ref (eAd E 30), .int (μ1.2.2.1 4)] (by decide) rfl rfl rfl (so_X0_sort 37 30 (μ1.2.2.1 4) (by decide) rfl (by decide) rfl μ1 P2 hs) gw_X0_35 rfl rfl dd_X0_sort ⟨by decide, by decide⟩ rfl rfl (Nat.le_of_ble_eq_true rfl) ⟨by decide, by decide⟩ dX0_arrange_18 (fun μ3 q4 => ?_)
  replace h := h μ3 q4
  refine v_aload_n C 0 rfl rfl dX0_arrange_21 ?_
  refine v_aload_n C 0 rfl rfl dX0_arrange_22 ?_
  refine gf_X0_25 C dX0_arrange_23 ?_
  refine v_aload_n C 1 rfl rfl dX0_arrange_26 ?_
  refine gf_X0_39 C dX0_arrange_27 ?_
  refine v_aload_n C 1 rfl rfl dX0_arrange_30 ?_
  refine gf_X0_34 C dX0_arrange_31 ?_
  obtain ⟨P5, hs, h⟩ := h
  refine v_callVv C 6 [.ref (eAd E 38), .ref (eAd E 32), .int (μ3.2.2.1 4)] (by decide) rfl rfl rfl (so_X0_sort 38 32 (μ3.2.2.1 4) (by decide) rfl (by decide) rfl μ3 P5 hs) gw_X0_35 rfl rfl dd_X0_sort ⟨by decide, by decide⟩ rfl rfl (Nat.le_of_ble_eq_true rfl) ⟨by decide, by decide⟩ dX0_arrange_34 (fun μ6 q7 => ?_)
  replace h := h μ6 q7
  refine v_aload_n C 0 rfl rfl dX0_arrange_37 ?_
  refine v_aload_n C 1 rfl rfl dX0_arrange_38 ?_
  refine v_iconst (v := (0 : Int32)) C dX0_arrange_39 (by decide) ?_
  obtain ⟨P8, hs, h⟩ := h
  refine v_callVv C 6 [.ref (eAd E 5), .int (0 : Int32)] (by decide) rfl rfl rfl (so_X0_arrangeKind (0 : Int32) μ6 P8 hs) gw_X0_42 rfl rfl dd_X0_arrangeKind ⟨by decide, by decide⟩ rfl rfl (Nat.le_of_ble_eq_true rfl) ⟨by decide, by decide⟩ dX0_arrange_40 (fun μ9 q10 => ?_)
  replace h := h μ9 q10
  refine v_aload_n C 0 rfl rfl dX0_arrange_43 ?_
  refine v_aload_n C 1 rfl rfl dX0_arrange_44 ?_
  refine v_iconst (v := (1 : Int32)) C dX0_arrange_45 (by decide) ?_
  obtain ⟨P11, hs, h⟩ := h
  refine v_callVv C 6 [.ref (eAd E 5), .int (1 : Int32)] (by decide) rfl rfl rfl (so_X0_arrangeKind (1 : Int32) μ9 P11 hs) gw_X0_42 rfl rfl dd_X0_arrangeKind ⟨by decide, by decide⟩ rfl rfl (Nat.le_of_ble_eq_true rfl) ⟨by decide, by decide⟩ dX0_arrange_46 (fun μ12 q13 => ?_)
  replace h := h μ12 q13
  exact v_vret C hr h dX0_arrange_49
set_option maxRecDepth 10000 in
set_option maxHeartbeats 4000000 in
theorem so_X0_arrange {l : Launch} {E : EvT} (μ : MemT) (P : MemT → Prop) (h : sp_X0_arrange  μ P) : MCv l E yX0_arrange cX0_arrange 2 none (rmN 4 108) [.ref (eAd E 6), .ref (eAd E 5)] μ P := by
  refine mc_entryv (by decide +kernel) (Nat.le_of_ble_eq_true rfl) (fun p e s m below meth c C hr => ?_)
  exact so_X0_arrange_0 C hr  μ h
set_option maxRecDepth 10000 in
set_option maxHeartbeats 4000000 in
theorem so_X0_blockOfSign_0 {p : Program} {l : Launch} {e : Env} {s : State} {m : MethodId} {args : Array Value} {below : List Frame} {meth : Method} {c : Code} {E : EvT} {P : Int32 → MemT → Prop} (C : Cx p s m args meth c E cX0_blockOfSign 4 RX0) (hr : meth.sig.returnType = (some .int)) (x2 : Int32) (μ : MemT) (h : t_X0_blockOfSign_0 P x2 μ) : V p l e (rmN 0 0) s m args below meth c E 4 0 0 (MQ below (va_Qi P (wdP E) (eA E s.heap.size)) args s 0 0 (eA E s.heap.size)) 0 [(0, .ref (eAd E 6)), (1, .ref (eAd E 5)), (2, .int x2)] [] μ := by
  unfold t_X0_blockOfSign_0 at h
  refine v_aload_n C 1 rfl rfl dX0_blockOfSign_0 ?_
  refine gf_X0_91 C dX0_blockOfSign_1 ?_
  refine v_iload_n C 2 rfl rfl dX0_blockOfSign_4 ?_
  obtain ⟨b1, h⟩ := h
  refine v_iald C 27 (by decide) rfl b1 dX0_blockOfSign_5 ?_
  refine v_istore_n C [(3, .int (μ.1 27 x2.toNatClampNeg)), (0, .ref (eAd E 6)), (1, .ref (eAd E 5)), (2, .int x2)] rfl (by decide) rfl dX0_blockOfSign_6 ?_
  refine v_iload_n C 0 rfl rfl dX0_blockOfSign_7 ?_
  refine v_if_ge C 15 (by decide) dX0_blockOfSign_8 (fun q3 => ?_) (fun q3 => ?_)
  · replace h := h.1 q3
    refine v_aload_n C 1 rfl rfl dX0_blockOfSign_15 ?_
    refine gf_X0_15 C dX0_blockOfSign_16 ?_
    refine v_iload_n C 0 rfl rfl dX0_blockOfSign_19 ?_
    obtain ⟨b2, h⟩ := h
    refine v_iald C 35 (by decide) rfl b2 dX0_blockOfSign_20 ?_
    exact v_iret C hr h dX0_blockOfSign_21
  · replace h := h.2 q3
    refine v_iconst (v := (-1 : Int32)) C dX0_blockOfSign_11 (by decide) ?_
    refine v_goto C 21 (by decide) dX0_blockOfSign_12 ?_
    exact v_iret C hr h dX0_blockOfSign_21
set_option maxRecDepth 10000 in
set_option maxHeartbeats 4000000 in
theorem so_X0_blockOfSign {l : Launch} {E : EvT} (x2 : Int32) (μ : MemT) (P : Int32 → MemT → Prop) (h : sp_X0_blockOfSign x2 μ P) : MCi l E yX0_blockOfSign cX0_blockOfSign 4 (some .int) (rmN 0 0) [.ref (eAd E 6), .ref (eAd E 5), .int x2] μ P := by
  refine mc_entryi (by decide +kernel) (Nat.le_of_ble_eq_true rfl) (fun p e s m below meth c C hr => ?_)
  exact so_X0_blockOfSign_0 C hr x2 μ h
set_option maxRecDepth 10000 in
set_option maxHeartbeats 4000000 in
theorem so_X0_areOfOne_0 {p : Program} {l : Launch} {e : Env} {s : State} {m : MethodId} {args : Array Value} {below : List Frame} {meth : Method} {c : Code} {E : EvT} {P : Int32 → MemT → Prop} (C : Cx p s m args meth c E cX0_areOfOne 4 RX0) (hr : meth.sig.returnType = (some .boolean)) (x2 : Int32) (x3 : Int32) (μ : MemT) (h : t_X0_areOfOne_0 P x2 x3 μ) : V p l e (rmN 1 23) s m args below meth c E 4 0 0 (MQ below (va_Qi P (wdP E) (eA E s.heap.size)) args s 0 0 (eA E s.heap.size)) 0 [(0, .ref (eAd E 6)), (1, .ref (eAd E 5)), (2, .int x2), (3, .int x3)] [] μ := by
  unfold t_X0_areOfOne_0 at h
  refine v_aload_n C 0 rfl rfl dX0_areOfOne_0 ?_
  refine v_aload_n C 1 rfl rfl dX0_areOfOne_1 ?_
  refine v_iload_n C 2 rfl rfl dX0_areOfOne_2 ?_
  obtain ⟨P1, hs, h⟩ := h
  refine v_callVi C 6 [.ref (eAd E 5), .int x2] (by decide) rfl rfl rfl (so_X0_blockOfSign x2 μ P1 hs) gw_X0_94 rfl rfl dd_X0_blockOfSign ⟨by decide, by decide⟩ rfl rfl (Nat.le_of_ble_eq_true rfl) ⟨by decide, by decide⟩ dX0_areOfOne_3 (fun r4 μ2 q3 => ?_)
  replace h := h r4 μ2 q3
  refine v_aload_n C 0 rfl rfl dX0_areOfOne_6 ?_
  refine v_aload_n C 1 rfl rfl dX0_areOfOne_7 ?_
  refine v_iload_n C 3 rfl rfl dX0_areOfOne_8 ?_
  obtain ⟨P5, hs, h⟩ := h
  refine v_callVi C 6 [.ref (eAd E 5), .int x3] (by decide) rfl rfl rfl (so_X0_blockOfSign x3 μ2 P5 hs) gw_X0_94 rfl rfl dd_X0_blockOfSign ⟨by decide, by decide⟩ rfl rfl (Nat.le_of_ble_eq_true rfl) ⟨by decide, by decide⟩ dX0_areOfOne_9 (fun r8 μ6 q7 => ?_)
  replace h := h r8 μ6 q7
  refine v_icmp_ne C 19 (by decide) dX0_areOfOne_12 (fun q9 => ?_) (fun q9 => ?_)
  · replace h := h.1 q9
    refine v_iconst (v := (0 : Int32)) C dX0_areOfOne_19 (by decide) ?_
    exact v_zret C hr nb0 h dX0_areOfOne_20
  · replace h := h.2 q9
    refine v_iconst (v := (1 : Int32)) C dX0_areOfOne_15 (by decide) ?_
    refine v_goto C 20 (by decide) dX0_areOfOne_16 ?_
    exact v_zret C hr nb1 h dX0_areOfOne_20
set_option maxRecDepth 10000 in
set_option maxHeartbeats 4000000 in
theorem so_X0_areOfOne {l : Launch} {E : EvT} (x2 : Int32) (x3 : Int32) (μ : MemT) (P : Int32 → MemT → Prop) (h : sp_X0_areOfOne x2 x3 μ P) : MCi l E yX0_areOfOne cX0_areOfOne 4 (some .boolean) (rmN 1 23) [.ref (eAd E 6), .ref (eAd E 5), .int x2, .int x3] μ P := by
  refine mc_entryi (by decide +kernel) (Nat.le_of_ble_eq_true rfl) (fun p e s m below meth c C hr => ?_)
  exact so_X0_areOfOne_0 C hr x2 x3 μ h
set_option maxRecDepth 10000 in
set_option maxHeartbeats 4000000 in
theorem so_X1_insert_69 {p : Program} {l : Launch} {e : Env} {s : State} {m : MethodId} {args : Array Value} {below : List Frame} {meth : Method} {c : Code} {E : EvT} {P : MemT → Prop} (C : Cx p s m args meth c E cX1_insert 5 RX1) (hr : meth.sig.returnType = none) {K17 : Int32 → Int32 → Int32 → MemT → Prop} (hK17 : ∀ (x2 : Int32) (x3 : Int32) (x4 : Int32) (μ : MemT), K17 x2 x3 x4 μ → V p l e (rmN 0 0) s m args below meth c E 5 0 0 (MQ below (va_Qv P (wdP E) (eA E s.heap.size)) args s 0 0 (eA E s.heap.size)) 17 [(0, .ref (eAd E 4)), (1, .ref (eAd E 3)), (2, .int x2), (3, .int x3), (4, .int x4)] [] μ) (x2 : Int32) (x3 : Int32) (x4 : Int32) (μ : MemT) (h : t_X1_insert_69 K17 P x2 x3 x4 μ) : V p l e (rmN 0 0) s m args below meth c E 5 0 0 (MQ below (va_Qv P (wdP E) (eA E s.heap.size)) args s 0 0 (eA E s.heap.size)) 69 [(0, .ref (eAd E 4)), (1, .ref (eAd E 3)), (2, .int x2), (3, .int x3), (4, .int x4)] [] μ := by
  unfold t_X1_insert_69 at h
  refine v_aload_n C 0 rfl rfl dX1_insert_69 ?_
  refine gf_X1_18 C dX1_insert_70 ?_
  refine v_iload C 4 rfl dX1_insert_73 ?_
  refine v_iload_n C 3 rfl rfl dX1_insert_75 ?_
  obtain ⟨b1, h⟩ := h
  refine v_iast C 24 (by decide) rfl b1 dX1_insert_76 ?_
  refine v_nmM (fun μ2 e_μ2 => ?_)
  replace h := h μ2 e_μ2
  refine v_aload_n C 0 rfl rfl dX1_insert_77 ?_
  refine v_dup C rfl dX1_insert_78 ?_
  refine gf_X1_15 C dX1_insert_79 ?_
  refine v_iconst (v := (1 : Int32)) C dX1_insert_82 (by decide) ?_
  refine v_iadd C dX1_insert_83 ?_
  refine pf_X1_15 C dX1_insert_84 ?_
  refine v_nmM (fun μ3 e_μ3 => ?_)
  replace h := h μ3 e_μ3
  exact v_vret C hr h dX1_insert_87
set_option maxRecDepth 10000 in
set_option maxHeartbeats 4000000 in
theorem so_X1_insert_17 {p : Program} {l : Launch} {e : Env} {s : State} {m : MethodId} {args : Array Value} {below : List Frame} {meth : Method} {c : Code} {E : EvT} {P : MemT → Prop} (C : Cx p s m args meth c E cX1_insert 5 RX1) (hr : meth.sig.returnType = none) {K17 : Int32 → Int32 → Int32 → MemT → Prop} (hK17 : ∀ (x2 : Int32) (x3 : Int32) (x4 : Int32) (μ : MemT), K17 x2 x3 x4 μ → V p l e (rmN 0 0) s m args below meth c E 5 0 0 (MQ below (va_Qv P (wdP E) (eA E s.heap.size)) args s 0 0 (eA E s.heap.size)) 17 [(0, .ref (eAd E 4)), (1, .ref (eAd E 3)), (2, .int x2), (3, .int x3), (4, .int x4)] [] μ) (x2 : Int32) (x3 : Int32) (x4 : Int32) (μ : MemT) (h : t_X1_insert_17 K17 P x2 x3 x4 μ) : V p l e (rmN 0 0) s m args below meth c E 5 0 0 (MQ below (va_Qv P (wdP E) (eA E s.heap.size)) args s 0 0 (eA E s.heap.size)) 17 [(0, .ref (eAd E 4)), (1, .ref (eAd E 3)), (2, .int x2), (3, .int x3), (4, .int x4)] [] μ := by
  unfold t_X1_insert_17 at h
  refine v_iload C 4 rfl dX1_insert_17 ?_
  refine v_iload_n C 2 rfl rfl dX1_insert_19 ?_
  refine v_icmp_le C 69 (by decide) dX1_insert_20 (fun q8 => ?_) (fun q8 => ?_)
  · replace h := h.1 q8
    exact so_X1_insert_69 C hr hK17 _ _ _ _ h
  · replace h := h.2 q8
    refine v_aload_n C 1 rfl rfl dX1_insert_23 ?_
    refine gf_X1_64 C dX1_insert_24 ?_
    refine v_aload_n C 0 rfl rfl dX1_insert_27 ?_
    refine gf_X1_18 C dX1_insert_28 ?_
    refine v_iload C 4 rfl dX1_insert_31 ?_
    refine v_iconst (v := (1 : Int32)) C dX1_insert_33 (by decide) ?_
    refine v_isub C dX1_insert_34 ?_
    obtain ⟨b1, h⟩ := h
    refine v_iald C 24 (by decide) rfl b1 dX1_insert_35 ?_
    obtain ⟨b2, h⟩ := h
    refine v_lald C 19 (by decide) rfl b2 dX1_insert_36 ?_
    refine v_aload_n C 1 rfl rfl dX1_insert_37 ?_
    refine gf_X1_64 C dX1_insert_38 ?_
    refine v_iload_n C 3 rfl rfl dX1_insert_41 ?_
    obtain ⟨b3, h⟩ := h
    refine v_lald C 19 (by decide) rfl b3 dX1_insert_42 ?_
    refine v_lcmp_le C 69 (by decide) dX1_insert_43 dX1_insert_44 (fun q7 => ?_) (fun q7 => ?_)
    · replace h := h.1 q7
      exact so_X1_insert_69 C hr hK17 _ _ _ _ h
    · replace h := h.2 q7
      refine v_aload_n C 0 rfl rfl dX1_insert_47 ?_
      refine gf_X1_18 C dX1_insert_48 ?_
      refine v_iload C 4 rfl dX1_insert_51 ?_
      refine v_aload_n C 0 rfl rfl dX1_insert_53 ?_
      refine gf_X1_18 C dX1_insert_54 ?_
      refine v_iload C 4 rfl dX1_insert_57 ?_
      refine v_iconst (v := (1 : Int32)) C dX1_insert_59 (by decide) ?_
      refine v_isub C dX1_insert_60 ?_
      obtain ⟨b4, h⟩ := h
      refine v_iald C 24 (by decide) rfl b4 dX1_insert_61 ?_
      obtain ⟨b5, h⟩ := h
      refine v_iast C 24 (by decide) rfl b5 dX1_insert_62 ?_
      refine v_nmM (fun μ6 e_μ6 => ?_)
      replace h := h μ6 e_μ6
      refine v_iinc (v := (x4 + (-1))) C 4 [(4, .int (x4 + (-1))), (0, .ref (eAd E 4)), (1, .ref (eAd E 3)), (2, .int x2), (3, .int x3)] rfl (by rw [iM1]) (by decide) rfl dX1_insert_63 ?_
      refine v_goto C 17 (by decide) dX1_insert_66 ?_
      refine v_sub C [1, 2, 3, 4, 0] rfl ?_
      exact hK17 _ _ _ _ h
set_option maxRecDepth 10000 in
set_option maxHeartbeats 4000000 in
theorem so_X1_insert_0 {p : Program} {l : Launch} {e : Env} {s : State} {m : MethodId} {args : Array Value} {below : List Frame} {meth : Method} {c : Code} {E : EvT} {P : MemT → Prop} (C : Cx p s m args meth c E cX1_insert 5 RX1) (hr : meth.sig.returnType = none) {K17 : Int32 → Int32 → Int32 → MemT → Prop} (hK17 : ∀ (x2 : Int32) (x3 : Int32) (x4 : Int32) (μ : MemT), K17 x2 x3 x4 μ → V p l e (rmN 0 0) s m args below meth c E 5 0 0 (MQ below (va_Qv P (wdP E) (eA E s.heap.size)) args s 0 0 (eA E s.heap.size)) 17 [(0, .ref (eAd E 4)), (1, .ref (eAd E 3)), (2, .int x2), (3, .int x3), (4, .int x4)] [] μ) (x2 : Int32) (x3 : Int32) (μ : MemT) (h : t_X1_insert_0 K17 P x2 x3 μ) : V p l e (rmN 0 0) s m args below meth c E 5 0 0 (MQ below (va_Qv P (wdP E) (eA E s.heap.size)) args s 0 0 (eA E s.heap.size)) 0 [(0, .ref (eAd E 4)), (1, .ref (eAd E 3)), (2, .int x2), (3, .int x3)] [] μ := by
  unfold t_X1_insert_0 at h
  refine v_aload_n C 0 rfl rfl dX1_insert_0 ?_
  refine gf_X1_15 C dX1_insert_1 ?_
  refine v_sipush (v := (200 : Int32)) C dX1_insert_4 (by decide) ?_
  refine v_icmp_lt C 11 (by decide) dX1_insert_7 (fun q1 => ?_) (fun q1 => ?_)
  · replace h := h.1 q1
    refine v_aload_n C 0 rfl rfl dX1_insert_11 ?_
    refine gf_X1_15 C dX1_insert_12 ?_
    refine v_istore C [(4, .int (μ.2.2.1 3)), (0, .ref (eAd E 4)), (1, .ref (eAd E 3)), (2, .int x2), (3, .int x3)] (by decide) rfl dX1_insert_15 ?_
    refine v_sub C [1, 2, 3, 4, 0] rfl ?_
    exact hK17 _ _ _ _ h
  · replace h := h.2 q1
    exact v_vret C hr h dX1_insert_10
set_option maxRecDepth 10000 in
set_option maxHeartbeats 4000000 in
theorem so_X1_insert {l : Launch} {E : EvT} (x2 : Int32) (x3 : Int32) (μ : MemT) (P : MemT → Prop) (h : sp_X1_insert x2 x3 μ P) : MCv l E yX1_insert cX1_insert 5 none (rmN 0 0) [.ref (eAd E 4), .ref (eAd E 3), .int x2, .int x3] μ P := by
  refine mc_entryv (by decide +kernel) (Nat.le_of_ble_eq_true rfl) (fun p e s m below meth c C hr => ?_)
  have h0 := h (fun x2_ x3_ x4_ μ => V p l e (rmN 0 0) s m ([.ref (eAd E 4), .ref (eAd E 3), .int x2, .int x3] : List Value).toArray below meth c E 5 0 0 (MQ below (va_Qv P (wdP E) (eA E s.heap.size)) ([.ref (eAd E 4), .ref (eAd E 3), .int x2, .int x3] : List Value).toArray s 0 0 (eA E s.heap.size)) 17 [(0, .ref (eAd E 4)), (1, .ref (eAd E 3)), (2, .int x2_), (3, .int x3_), (4, .int x4_)] [] μ) (fun x2 x3 x4 μ ht => so_X1_insert_17 C hr (fun x2 x3 x4 μ hk => hk) x2 x3 x4 μ ht) 
  exact so_X1_insert_0 C hr (fun x2 x3 x4 μ hk => hk) x2 x3 μ h0
set_option maxRecDepth 10000 in
set_option maxHeartbeats 4000000 in
theorem so_X1_isLeft_0 {p : Program} {l : Launch} {e : Env} {s : State} {m : MethodId} {args : Array Value} {below : List Frame} {meth : Method} {c : Code} {E : EvT} {P : Int32 → MemT → Prop} (C : Cx p s m args meth c E cX1_isLeft 3 RX1) (hr : meth.sig.returnType = (some .boolean)) (x2 : Int32) (μ : MemT) (h : t_X1_isLeft_0 P x2 μ) : V p l e (rmN 0 0) s m args below meth c E 3 0 0 (MQ below (va_Qi P (wdP E) (eA E s.heap.size)) args s 0 0 (eA E s.heap.size)) 0 [(0, .ref (eAd E 4)), (1, .ref (eAd E 3)), (2, .int x2)] [] μ := by
  unfold t_X1_isLeft_0 at h
  refine v_aload_n C 1 rfl rfl dX1_isLeft_0 ?_
  refine gf_X1_55 C dX1_isLeft_1 ?_
  refine v_iload_n C 2 rfl rfl dX1_isLeft_4 ?_
  obtain ⟨b1, h⟩ := h
  refine v_iald C 23 (by decide) rfl b1 dX1_isLeft_5 ?_
  refine v_iconst (v := (-1 : Int32)) C dX1_isLeft_6 (by decide) ?_
  refine v_icmp_ne C 24 (by decide) dX1_isLeft_7 (fun q4 => ?_) (fun q4 => ?_)
  · replace h := h.1 q4
    refine v_iconst (v := (0 : Int32)) C dX1_isLeft_24 (by decide) ?_
    exact v_zret C hr nb0 h dX1_isLeft_25
  · replace h := h.2 q4
    refine v_aload_n C 0 rfl rfl dX1_isLeft_10 ?_
    refine gf_X1_25 C dX1_isLeft_11 ?_
    refine v_iload_n C 2 rfl rfl dX1_isLeft_14 ?_
    obtain ⟨b2, h⟩ := h
    refine v_iald C 26 (by decide) rfl b2 dX1_isLeft_15 ?_
    refine v_iconst (v := (-1 : Int32)) C dX1_isLeft_16 (by decide) ?_
    refine v_icmp_ne C 24 (by decide) dX1_isLeft_17 (fun q3 => ?_) (fun q3 => ?_)
    · replace h := h.1 q3
      refine v_iconst (v := (0 : Int32)) C dX1_isLeft_24 (by decide) ?_
      exact v_zret C hr nb0 h dX1_isLeft_25
    · replace h := h.2 q3
      refine v_iconst (v := (1 : Int32)) C dX1_isLeft_20 (by decide) ?_
      refine v_goto C 25 (by decide) dX1_isLeft_21 ?_
      exact v_zret C hr nb1 h dX1_isLeft_25
set_option maxRecDepth 10000 in
set_option maxHeartbeats 4000000 in
theorem so_X1_isLeft {l : Launch} {E : EvT} (x2 : Int32) (μ : MemT) (P : Int32 → MemT → Prop) (h : sp_X1_isLeft x2 μ P) : MCi l E yX1_isLeft cX1_isLeft 3 (some .boolean) (rmN 0 0) [.ref (eAd E 4), .ref (eAd E 3), .int x2] μ P := by
  refine mc_entryi (by decide +kernel) (Nat.le_of_ble_eq_true rfl) (fun p e s m below meth c C hr => ?_)
  exact so_X1_isLeft_0 C hr x2 μ h
set_option maxRecDepth 10000 in
set_option maxHeartbeats 4000000 in
theorem so_X1_gatherLine_9 {p : Program} {l : Launch} {e : Env} {s : State} {m : MethodId} {args : Array Value} {below : List Frame} {meth : Method} {c : Code} {E : EvT} {P : MemT → Prop} (C : Cx p s m args meth c E cX1_gatherLine 6 RX1) (hr : meth.sig.returnType = none) {K9 : Int32 → Int32 → Int32 → MemT → Prop} (hK9 : ∀ (x3 : Int32) (x4 : Int32) (x5 : Int32) (μ : MemT), K9 x3 x4 x5 μ → V p l e (rmN 1 24) s m args below meth c E 6 0 0 (MQ below (va_Qv P (wdP E) (eA E s.heap.size)) args s 0 0 (eA E s.heap.size)) 9 [(0, .ref (eAd E 4)), (1, .ref (eAd E 1)), (2, .ref (eAd E 3)), (3, .int x3), (4, .int x4), (5, .int x5)] [] μ) (x3 : Int32) (x4 : Int32) (x5 : Int32) (μ : MemT) (h : t_X1_gatherLine_9 K9 P x3 x4 x5 μ) : V p l e (rmN 1 24) s m args below meth c E 6 0 0 (MQ below (va_Qv P (wdP E) (eA E s.heap.size)) args s 0 0 (eA E s.heap.size)) 9 [(0, .ref (eAd E 4)), (1, .ref (eAd E 1)), (2, .ref (eAd E 3)), (3, .int x3), (4, .int x4), (5, .int x5)] [] μ := by
  unfold t_X1_gatherLine_9 at h
  refine v_iload C 5 rfl dX1_gatherLine_9 ?_
  refine v_aload_n C 1 rfl rfl dX1_gatherLine_11 ?_
  refine gf_X1_28 C dX1_gatherLine_12 ?_
  refine v_icmp_ge C 99 (by decide) dX1_gatherLine_15 (fun q19 => ?_) (fun q19 => ?_)
  · replace h := h.1 q19
    refine v_aload_n C 0 rfl rfl dX1_gatherLine_99 ?_
    refine v_dup C rfl dX1_gatherLine_100 ?_
    refine gf_X1_9 C dX1_gatherLine_101 ?_
    refine v_iconst (v := (1 : Int32)) C dX1_gatherLine_104 (by decide) ?_
    refine v_iadd C dX1_gatherLine_105 ?_
    refine pf_X1_9 C dX1_gatherLine_106 ?_
    refine v_nmM (fun μ1 e_μ1 => ?_)
    replace h := h μ1 e_μ1
    exact v_vret C hr h dX1_gatherLine_109
  · replace h := h.2 q19
    refine v_aload_n C 0 rfl rfl dX1_gatherLine_18 ?_
    refine v_aload_n C 2 rfl rfl dX1_gatherLine_19 ?_
    refine v_iload C 5 rfl dX1_gatherLine_20 ?_
    obtain ⟨P2, hs, h⟩ := h
    refine v_callVi C 4 [.ref (eAd E 3), .int x5] (by decide) rfl rfl rfl (so_X1_isLeft x5 μ P2 hs) gw_X1_43 rfl rfl dd_X1_isLeft ⟨by decide, by decide⟩ rfl rfl (Nat.le_of_ble_eq_true rfl) ⟨by decide, by decide⟩ dX1_gatherLine_22 (fun r5 μ3 q4 => ?_)
    replace h := h r5 μ3 q4
    refine v_if_eq C 93 (by decide) dX1_gatherLine_25 (fun q18 => ?_) (fun q18 => ?_)
    · replace h := h.1 q18
      refine v_iinc (v := (x5 + 1)) C 5 [(5, .int (x5 + 1)), (0, .ref (eAd E 4)), (1, .ref (eAd E 1)), (2, .ref (eAd E 3)), (3, .int x3), (4, .int x4)] rfl rfl (by decide) rfl dX1_gatherLine_93 ?_
      refine v_goto C 9 (by decide) dX1_gatherLine_96 ?_
      refine v_sub C [1, 2, 3, 4, 5, 0] rfl ?_
      exact hK9 _ _ _ _ h
    · replace h := h.2 q18
      refine v_aload_n C 1 rfl rfl dX1_gatherLine_28 ?_
      refine gf_X1_47 C dX1_gatherLine_29 ?_
      refine v_iload C 5 rfl dX1_gatherLine_32 ?_
      obtain ⟨b6, h⟩ := h
      refine v_zald C 15 (by decide) rfl b6 dX1_gatherLine_34 ?_
      refine v_aload_n C 1 rfl rfl dX1_gatherLine_35 ?_
      refine gf_X1_47 C dX1_gatherLine_36 ?_
      refine v_iload_n C 3 rfl rfl dX1_gatherLine_39 ?_
      obtain ⟨b7, h⟩ := h
      refine v_zald C 15 (by decide) rfl b7 dX1_gatherLine_40 ?_
      refine v_icmp_ne C 93 (by decide) dX1_gatherLine_41 (fun q17 => ?_) (fun q17 => ?_)
      · replace h := h.1 q17
        refine v_iinc (v := (x5 + 1)) C 5 [(5, .int (x5 + 1)), (0, .ref (eAd E 4)), (1, .ref (eAd E 1)), (2, .ref (eAd E 3)), (3, .int x3), (4, .int x4)] rfl rfl (by decide) rfl dX1_gatherLine_93 ?_
        refine v_goto C 9 (by decide) dX1_gatherLine_96 ?_
        refine v_sub C [1, 2, 3, 4, 5, 0] rfl ?_
        exact hK9 _ _ _ _ h
      · replace h := h.2 q17
        refine v_ldc2 C gc_X1_67 dX1_gatherLine_44 ?_
        refine v_aload_n C 2 rfl rfl dX1_gatherLine_47 ?_
        refine gf_X1_60 C dX1_gatherLine_48 ?_
        refine v_iload_n C 3 rfl rfl dX1_gatherLine_51 ?_
        obtain ⟨b8, h⟩ := h
        refine v_lald C 20 (by decide) rfl b8 dX1_gatherLine_52 ?_
        refine v_aload_n C 2 rfl rfl dX1_gatherLine_53 ?_
        refine gf_X1_60 C dX1_gatherLine_54 ?_
        refine v_iload C 5 rfl dX1_gatherLine_57 ?_
        obtain ⟨b9, h⟩ := h
        refine v_lald C 20 (by decide) rfl b9 dX1_gatherLine_59 ?_
        refine v_lsub C dX1_gatherLine_60 ?_
        refine v_lmul C dX1_gatherLine_61 ?_
        refine v_aload_n C 1 rfl rfl dX1_gatherLine_62 ?_
        refine gf_X1_69 C dX1_gatherLine_63 ?_
        refine v_iload_n C 3 rfl rfl dX1_gatherLine_66 ?_
        obtain ⟨b10, h⟩ := h
        refine v_iald C 14 (by decide) rfl b10 dX1_gatherLine_67 ?_
        refine v_i2l C dX1_gatherLine_68 ?_
        refine v_lcmp_gt C 93 (by decide) dX1_gatherLine_69 dX1_gatherLine_70 (fun q16 => ?_) (fun q16 => ?_)
        · replace h := h.1 q16
          refine v_iinc (v := (x5 + 1)) C 5 [(5, .int (x5 + 1)), (0, .ref (eAd E 4)), (1, .ref (eAd E 1)), (2, .ref (eAd E 3)), (3, .int x3), (4, .int x4)] rfl rfl (by decide) rfl dX1_gatherLine_93 ?_
          refine v_goto C 9 (by decide) dX1_gatherLine_96 ?_
          refine v_sub C [1, 2, 3, 4, 5, 0] rfl ?_
          exact hK9 _ _ _ _ h
        · replace h := h.2 q16
          refine v_aload_n C 0 rfl rfl dX1_gatherLine_73 ?_
          refine gf_X1_25 C dX1_gatherLine_74 ?_
          refine v_iload C 5 rfl dX1_gatherLine_77 ?_
          refine v_aload_n C 0 rfl rfl dX1_gatherLine_79 ?_
          refine gf_X1_9 C dX1_gatherLine_80 ?_
          obtain ⟨b11, h⟩ := h
          refine v_iast C 26 (by decide) rfl b11 dX1_gatherLine_83 ?_
          refine v_nmM (fun μ12 e_μ12 => ?_)
          replace h := h μ12 e_μ12
          refine v_aload_n C 0 rfl rfl dX1_gatherLine_84 ?_
          refine v_aload_n C 2 rfl rfl dX1_gatherLine_85 ?_
          refine v_iload C 4 rfl dX1_gatherLine_86 ?_
          refine v_iload C 5 rfl dX1_gatherLine_88 ?_
          obtain ⟨P13, hs, h⟩ := h
          refine v_callVv C 4 [.ref (eAd E 3), .int x4, .int x5] (by decide) rfl rfl rfl (so_X1_insert x4 x5 μ12 P13 hs) gw_X1_72 rfl rfl dd_X1_insert ⟨by decide, by decide⟩ rfl rfl (Nat.le_of_ble_eq_true rfl) ⟨by decide, by decide⟩ dX1_gatherLine_90 (fun μ14 q15 => ?_)
          replace h := h μ14 q15
          refine v_iinc (v := (x5 + 1)) C 5 [(5, .int (x5 + 1)), (0, .ref (eAd E 4)), (1, .ref (eAd E 1)), (2, .ref (eAd E 3)), (3, .int x3), (4, .int x4)] rfl rfl (by decide) rfl dX1_gatherLine_93 ?_
          refine v_goto C 9 (by decide) dX1_gatherLine_96 ?_
          refine v_sub C [1, 2, 3, 4, 5, 0] rfl ?_
          exact hK9 _ _ _ _ h
set_option maxRecDepth 10000 in
set_option maxHeartbeats 4000000 in
theorem so_X1_gatherLine_0 {p : Program} {l : Launch} {e : Env} {s : State} {m : MethodId} {args : Array Value} {below : List Frame} {meth : Method} {c : Code} {E : EvT} {P : MemT → Prop} (C : Cx p s m args meth c E cX1_gatherLine 6 RX1) (hr : meth.sig.returnType = none) {K9 : Int32 → Int32 → Int32 → MemT → Prop} (hK9 : ∀ (x3 : Int32) (x4 : Int32) (x5 : Int32) (μ : MemT), K9 x3 x4 x5 μ → V p l e (rmN 1 24) s m args below meth c E 6 0 0 (MQ below (va_Qv P (wdP E) (eA E s.heap.size)) args s 0 0 (eA E s.heap.size)) 9 [(0, .ref (eAd E 4)), (1, .ref (eAd E 1)), (2, .ref (eAd E 3)), (3, .int x3), (4, .int x4), (5, .int x5)] [] μ) (x3 : Int32) (μ : MemT) (h : t_X1_gatherLine_0 K9 P x3 μ) : V p l e (rmN 1 24) s m args below meth c E 6 0 0 (MQ below (va_Qv P (wdP E) (eA E s.heap.size)) args s 0 0 (eA E s.heap.size)) 0 [(0, .ref (eAd E 4)), (1, .ref (eAd E 1)), (2, .ref (eAd E 3)), (3, .int x3)] [] μ := by
  unfold t_X1_gatherLine_0 at h
  refine v_aload_n C 0 rfl rfl dX1_gatherLine_0 ?_
  refine gf_X1_15 C dX1_gatherLine_1 ?_
  refine v_istore C [(4, .int (μ.2.2.1 3)), (0, .ref (eAd E 4)), (1, .ref (eAd E 1)), (2, .ref (eAd E 3)), (3, .int x3)] (by decide) rfl dX1_gatherLine_4 ?_
  refine v_iconst (v := (0 : Int32)) C dX1_gatherLine_6 (by decide) ?_
  refine v_istore C [(5, .int (0 : Int32)), (4, .int (μ.2.2.1 3)), (0, .ref (eAd E 4)), (1, .ref (eAd E 1)), (2, .ref (eAd E 3)), (3, .int x3)] (by decide) rfl dX1_gatherLine_7 ?_
  refine v_sub C [2, 3, 4, 5, 1, 0] rfl ?_
  exact hK9 _ _ _ _ h
set_option maxRecDepth 10000 in
set_option maxHeartbeats 4000000 in
theorem so_X1_gatherLine {l : Launch} {E : EvT} (x3 : Int32) (μ : MemT) (P : MemT → Prop) (h : sp_X1_gatherLine x3 μ P) : MCv l E yX1_gatherLine cX1_gatherLine 6 none (rmN 1 24) [.ref (eAd E 4), .ref (eAd E 1), .ref (eAd E 3), .int x3] μ P := by
  refine mc_entryv (by decide +kernel) (Nat.le_of_ble_eq_true rfl) (fun p e s m below meth c C hr => ?_)
  have h0 := h (fun x3_ x4_ x5_ μ => V p l e (rmN 1 24) s m ([.ref (eAd E 4), .ref (eAd E 1), .ref (eAd E 3), .int x3] : List Value).toArray below meth c E 6 0 0 (MQ below (va_Qv P (wdP E) (eA E s.heap.size)) ([.ref (eAd E 4), .ref (eAd E 1), .ref (eAd E 3), .int x3] : List Value).toArray s 0 0 (eA E s.heap.size)) 9 [(0, .ref (eAd E 4)), (1, .ref (eAd E 1)), (2, .ref (eAd E 3)), (3, .int x3_), (4, .int x4_), (5, .int x5_)] [] μ) (fun x3 x4 x5 μ ht => so_X1_gatherLine_9 C hr (fun x3 x4 x5 μ hk => hk) x3 x4 x5 μ ht) 
  exact so_X1_gatherLine_0 C hr (fun x3 x4 x5 μ hk => hk) x3 μ h0
set_option maxRecDepth 10000 in
set_option maxHeartbeats 4000000 in
theorem so_X1_leads_0 {p : Program} {l : Launch} {e : Env} {s : State} {m : MethodId} {args : Array Value} {below : List Frame} {meth : Method} {c : Code} {E : EvT} {P : Int32 → MemT → Prop} (C : Cx p s m args meth c E cX1_leads 4 RX1) (hr : meth.sig.returnType = (some .boolean)) (x2 : Int32) (x3 : Int32) (μ : MemT) (h : t_X1_leads_0 P x2 x3 μ) : V p l e (rmN 0 0) s m args below meth c E 4 0 0 (MQ below (va_Qi P (wdP E) (eA E s.heap.size)) args s 0 0 (eA E s.heap.size)) 0 [(0, .ref (eAd E 4)), (1, .ref (eAd E 3)), (2, .int x2), (3, .int x3)] [] μ := by
  unfold t_X1_leads_0 at h
  refine v_aload_n C 1 rfl rfl dX1_leads_0 ?_
  refine gf_X1_60 C dX1_leads_1 ?_
  refine v_iload_n C 2 rfl rfl dX1_leads_4 ?_
  obtain ⟨b1, h⟩ := h
  refine v_lald C 20 (by decide) rfl b1 dX1_leads_5 ?_
  refine v_aload_n C 1 rfl rfl dX1_leads_6 ?_
  refine gf_X1_60 C dX1_leads_7 ?_
  refine v_iload_n C 3 rfl rfl dX1_leads_10 ?_
  obtain ⟨b2, h⟩ := h
  refine v_lald C 20 (by decide) rfl b2 dX1_leads_11 ?_
  refine v_lcmp_eq C 38 (by decide) dX1_leads_12 dX1_leads_13 (fun q9 => ?_) (fun q9 => ?_)
  · replace h := h.1 q9
    refine v_aload_n C 1 rfl rfl dX1_leads_38 ?_
    refine gf_X1_64 C dX1_leads_39 ?_
    refine v_iload_n C 2 rfl rfl dX1_leads_42 ?_
    obtain ⟨b3, h⟩ := h
    refine v_lald C 19 (by decide) rfl b3 dX1_leads_43 ?_
    refine v_aload_n C 1 rfl rfl dX1_leads_44 ?_
    refine gf_X1_64 C dX1_leads_45 ?_
    refine v_iload_n C 3 rfl rfl dX1_leads_48 ?_
    obtain ⟨b4, h⟩ := h
    refine v_lald C 19 (by decide) rfl b4 dX1_leads_49 ?_
    refine v_lcmp_ge C 58 (by decide) dX1_leads_50 dX1_leads_51 (fun q5 => ?_) (fun q5 => ?_)
    · replace h := h.1 q5
      refine v_iconst (v := (0 : Int32)) C dX1_leads_58 (by decide) ?_
      exact v_zret C hr nb0 h dX1_leads_59
    · replace h := h.2 q5
      refine v_iconst (v := (1 : Int32)) C dX1_leads_54 (by decide) ?_
      refine v_goto C 59 (by decide) dX1_leads_55 ?_
      exact v_zret C hr nb1 h dX1_leads_59
  · replace h := h.2 q9
    refine v_aload_n C 1 rfl rfl dX1_leads_16 ?_
    refine gf_X1_60 C dX1_leads_17 ?_
    refine v_iload_n C 2 rfl rfl dX1_leads_20 ?_
    obtain ⟨b6, h⟩ := h
    refine v_lald C 20 (by decide) rfl b6 dX1_leads_21 ?_
    refine v_aload_n C 1 rfl rfl dX1_leads_22 ?_
    refine gf_X1_60 C dX1_leads_23 ?_
    refine v_iload_n C 3 rfl rfl dX1_leads_26 ?_
    obtain ⟨b7, h⟩ := h
    refine v_lald C 20 (by decide) rfl b7 dX1_leads_27 ?_
    refine v_lcmp_le C 36 (by decide) dX1_leads_28 dX1_leads_29 (fun q8 => ?_) (fun q8 => ?_)
    · replace h := h.1 q8
      refine v_iconst (v := (0 : Int32)) C dX1_leads_36 (by decide) ?_
      exact v_zret C hr nb0 h dX1_leads_37
    · replace h := h.2 q8
      refine v_iconst (v := (1 : Int32)) C dX1_leads_32 (by decide) ?_
      refine v_goto C 37 (by decide) dX1_leads_33 ?_
      exact v_zret C hr nb1 h dX1_leads_37
set_option maxRecDepth 10000 in
set_option maxHeartbeats 4000000 in
theorem so_X1_leads {l : Launch} {E : EvT} (x2 : Int32) (x3 : Int32) (μ : MemT) (P : Int32 → MemT → Prop) (h : sp_X1_leads x2 x3 μ P) : MCi l E yX1_leads cX1_leads 4 (some .boolean) (rmN 0 0) [.ref (eAd E 4), .ref (eAd E 3), .int x2, .int x3] μ P := by
  refine mc_entryi (by decide +kernel) (Nat.le_of_ble_eq_true rfl) (fun p e s m below meth c C hr => ?_)
  exact so_X1_leads_0 C hr x2 x3 μ h
set_option maxRecDepth 10000 in
set_option maxHeartbeats 4000000 in
theorem so_X1_nextHead_6 {p : Program} {l : Launch} {e : Env} {s : State} {m : MethodId} {args : Array Value} {below : List Frame} {meth : Method} {c : Code} {E : EvT} {P : Int32 → MemT → Prop} (C : Cx p s m args meth c E cX1_nextHead 6 RX1) (hr : meth.sig.returnType = (some .int)) {K6 : Int32 → Int32 → Int32 → MemT → Prop} (hK6 : ∀ (x3 : Int32) (x4 : Int32) (x5 : Int32) (μ : MemT), K6 x3 x4 x5 μ → V p l e (rmN 1 23) s m args below meth c E 6 0 0 (MQ below (va_Qi P (wdP E) (eA E s.heap.size)) args s 0 0 (eA E s.heap.size)) 6 [(0, .ref (eAd E 4)), (1, .ref (eAd E 1)), (2, .ref (eAd E 3)), (3, .int x3), (4, .int x4), (5, .int x5)] [] μ) (x3 : Int32) (x4 : Int32) (x5 : Int32) (μ : MemT) (h : t_X1_nextHead_6 K6 P x3 x4 x5 μ) : V p l e (rmN 1 23) s m args below meth c E 6 0 0 (MQ below (va_Qi P (wdP E) (eA E s.heap.size)) args s 0 0 (eA E s.heap.size)) 6 [(0, .ref (eAd E 4)), (1, .ref (eAd E 1)), (2, .ref (eAd E 3)), (3, .int x3), (4, .int x4), (5, .int x5)] [] μ := by
  unfold t_X1_nextHead_6 at h
  refine v_iload C 5 rfl dX1_nextHead_6 ?_
  refine v_aload_n C 1 rfl rfl dX1_nextHead_8 ?_
  refine gf_X1_28 C dX1_nextHead_9 ?_
  refine v_icmp_ge C 63 (by decide) dX1_nextHead_12 (fun q14 => ?_) (fun q14 => ?_)
  · replace h := h.1 q14
    refine v_iload C 4 rfl dX1_nextHead_63 ?_
    exact v_iret C hr h dX1_nextHead_65
  · replace h := h.2 q14
    refine v_aload_n C 0 rfl rfl dX1_nextHead_15 ?_
    refine v_aload_n C 2 rfl rfl dX1_nextHead_16 ?_
    refine v_iload C 5 rfl dX1_nextHead_17 ?_
    obtain ⟨P1, hs, h⟩ := h
    refine v_callVi C 4 [.ref (eAd E 3), .int x5] (by decide) rfl rfl rfl (so_X1_isLeft x5 μ P1 hs) gw_X1_43 rfl rfl dd_X1_isLeft ⟨by decide, by decide⟩ rfl rfl (Nat.le_of_ble_eq_true rfl) ⟨by decide, by decide⟩ dX1_nextHead_19 (fun r4 μ2 q3 => ?_)
    replace h := h r4 μ2 q3
    refine v_if_eq C 57 (by decide) dX1_nextHead_22 (fun q13 => ?_) (fun q13 => ?_)
    · replace h := h.1 q13
      refine v_iinc (v := (x5 + 1)) C 5 [(5, .int (x5 + 1)), (0, .ref (eAd E 4)), (1, .ref (eAd E 1)), (2, .ref (eAd E 3)), (3, .int x3), (4, .int x4)] rfl rfl (by decide) rfl dX1_nextHead_57 ?_
      refine v_goto C 6 (by decide) dX1_nextHead_60 ?_
      refine v_sub C [1, 2, 3, 4, 5, 0] rfl ?_
      exact hK6 _ _ _ _ h
    · replace h := h.2 q13
      refine v_aload_n C 1 rfl rfl dX1_nextHead_25 ?_
      refine gf_X1_47 C dX1_nextHead_26 ?_
      refine v_iload C 5 rfl dX1_nextHead_29 ?_
      obtain ⟨b5, h⟩ := h
      refine v_zald C 15 (by decide) rfl b5 dX1_nextHead_31 ?_
      refine v_iload_n C 3 rfl rfl dX1_nextHead_32 ?_
      refine v_icmp_ne C 57 (by decide) dX1_nextHead_33 (fun q12 => ?_) (fun q12 => ?_)
      · replace h := h.1 q12
        refine v_iinc (v := (x5 + 1)) C 5 [(5, .int (x5 + 1)), (0, .ref (eAd E 4)), (1, .ref (eAd E 1)), (2, .ref (eAd E 3)), (3, .int x3), (4, .int x4)] rfl rfl (by decide) rfl dX1_nextHead_57 ?_
        refine v_goto C 6 (by decide) dX1_nextHead_60 ?_
        refine v_sub C [1, 2, 3, 4, 5, 0] rfl ?_
        exact hK6 _ _ _ _ h
      · replace h := h.2 q12
        refine v_iload C 4 rfl dX1_nextHead_36 ?_
        refine v_if_lt C 53 (by decide) dX1_nextHead_38 (fun q11 => ?_) (fun q11 => ?_)
        · replace h := h.1 q11
          refine v_iload C 5 rfl dX1_nextHead_53 ?_
          refine v_istore C [(4, .int x5), (0, .ref (eAd E 4)), (1, .ref (eAd E 1)), (2, .ref (eAd E 3)), (3, .int x3), (5, .int x5)] (by decide) rfl dX1_nextHead_55 ?_
          refine v_iinc (v := (x5 + 1)) C 5 [(5, .int (x5 + 1)), (4, .int x5), (0, .ref (eAd E 4)), (1, .ref (eAd E 1)), (2, .ref (eAd E 3)), (3, .int x3)] rfl rfl (by decide) rfl dX1_nextHead_57 ?_
          refine v_goto C 6 (by decide) dX1_nextHead_60 ?_
          refine v_sub C [2, 3, 4, 5, 1, 0] rfl ?_
          exact hK6 _ _ _ _ h
        · replace h := h.2 q11
          refine v_aload_n C 0 rfl rfl dX1_nextHead_41 ?_
          refine v_aload_n C 2 rfl rfl dX1_nextHead_42 ?_
          refine v_iload C 5 rfl dX1_nextHead_43 ?_
          refine v_iload C 4 rfl dX1_nextHead_45 ?_
          obtain ⟨P6, hs, h⟩ := h
          refine v_callVi C 4 [.ref (eAd E 3), .int x5, .int x4] (by decide) rfl rfl rfl (so_X1_leads x5 x4 μ2 P6 hs) gw_X1_51 rfl rfl dd_X1_leads ⟨by decide, by decide⟩ rfl rfl (Nat.le_of_ble_eq_true rfl) ⟨by decide, by decide⟩ dX1_nextHead_47 (fun r9 μ7 q8 => ?_)
          replace h := h r9 μ7 q8
          refine v_if_eq C 57 (by decide) dX1_nextHead_50 (fun q10 => ?_) (fun q10 => ?_)
          · replace h := h.1 q10
            refine v_iinc (v := (x5 + 1)) C 5 [(5, .int (x5 + 1)), (0, .ref (eAd E 4)), (1, .ref (eAd E 1)), (2, .ref (eAd E 3)), (3, .int x3), (4, .int x4)] rfl rfl (by decide) rfl dX1_nextHead_57 ?_
            refine v_goto C 6 (by decide) dX1_nextHead_60 ?_
            refine v_sub C [1, 2, 3, 4, 5, 0] rfl ?_
            exact hK6 _ _ _ _ h
          · replace h := h.2 q10
            refine v_iload C 5 rfl dX1_nextHead_53 ?_
            refine v_istore C [(4, .int x5), (0, .ref (eAd E 4)), (1, .ref (eAd E 1)), (2, .ref (eAd E 3)), (3, .int x3), (5, .int x5)] (by decide) rfl dX1_nextHead_55 ?_
            refine v_iinc (v := (x5 + 1)) C 5 [(5, .int (x5 + 1)), (4, .int x5), (0, .ref (eAd E 4)), (1, .ref (eAd E 1)), (2, .ref (eAd E 3)), (3, .int x3)] rfl rfl (by decide) rfl dX1_nextHead_57 ?_
            refine v_goto C 6 (by decide) dX1_nextHead_60 ?_
            refine v_sub C [2, 3, 4, 5, 1, 0] rfl ?_
            exact hK6 _ _ _ _ h
set_option maxRecDepth 10000 in
set_option maxHeartbeats 4000000 in
theorem so_X1_nextHead_0 {p : Program} {l : Launch} {e : Env} {s : State} {m : MethodId} {args : Array Value} {below : List Frame} {meth : Method} {c : Code} {E : EvT} {P : Int32 → MemT → Prop} (C : Cx p s m args meth c E cX1_nextHead 6 RX1) (hr : meth.sig.returnType = (some .int)) {K6 : Int32 → Int32 → Int32 → MemT → Prop} (hK6 : ∀ (x3 : Int32) (x4 : Int32) (x5 : Int32) (μ : MemT), K6 x3 x4 x5 μ → V p l e (rmN 1 23) s m args below meth c E 6 0 0 (MQ below (va_Qi P (wdP E) (eA E s.heap.size)) args s 0 0 (eA E s.heap.size)) 6 [(0, .ref (eAd E 4)), (1, .ref (eAd E 1)), (2, .ref (eAd E 3)), (3, .int x3), (4, .int x4), (5, .int x5)] [] μ) (x3 : Int32) (μ : MemT) (h : t_X1_nextHead_0 K6 P x3 μ) : V p l e (rmN 1 23) s m args below meth c E 6 0 0 (MQ below (va_Qi P (wdP E) (eA E s.heap.size)) args s 0 0 (eA E s.heap.size)) 0 [(0, .ref (eAd E 4)), (1, .ref (eAd E 1)), (2, .ref (eAd E 3)), (3, .int x3)] [] μ := by
  unfold t_X1_nextHead_0 at h
  refine v_iconst (v := (-1 : Int32)) C dX1_nextHead_0 (by decide) ?_
  refine v_istore C [(4, .int (-1 : Int32)), (0, .ref (eAd E 4)), (1, .ref (eAd E 1)), (2, .ref (eAd E 3)), (3, .int x3)] (by decide) rfl dX1_nextHead_1 ?_
  refine v_iconst (v := (0 : Int32)) C dX1_nextHead_3 (by decide) ?_
  refine v_istore C [(5, .int (0 : Int32)), (4, .int (-1 : Int32)), (0, .ref (eAd E 4)), (1, .ref (eAd E 1)), (2, .ref (eAd E 3)), (3, .int x3)] (by decide) rfl dX1_nextHead_4 ?_
  refine v_sub C [2, 3, 4, 5, 1, 0] rfl ?_
  exact hK6 _ _ _ _ h
set_option maxRecDepth 10000 in
set_option maxHeartbeats 4000000 in
theorem so_X1_nextHead {l : Launch} {E : EvT} (x3 : Int32) (μ : MemT) (P : Int32 → MemT → Prop) (h : sp_X1_nextHead x3 μ P) : MCi l E yX1_nextHead cX1_nextHead 6 (some .int) (rmN 1 23) [.ref (eAd E 4), .ref (eAd E 1), .ref (eAd E 3), .int x3] μ P := by
  refine mc_entryi (by decide +kernel) (Nat.le_of_ble_eq_true rfl) (fun p e s m below meth c C hr => ?_)
  have h0 := h (fun x3_ x4_ x5_ μ => V p l e (rmN 1 23) s m ([.ref (eAd E 4), .ref (eAd E 1), .ref (eAd E 3), .int x3] : List Value).toArray below meth c E 6 0 0 (MQ below (va_Qi P (wdP E) (eA E s.heap.size)) ([.ref (eAd E 4), .ref (eAd E 1), .ref (eAd E 3), .int x3] : List Value).toArray s 0 0 (eA E s.heap.size)) 6 [(0, .ref (eAd E 4)), (1, .ref (eAd E 1)), (2, .ref (eAd E 3)), (3, .int x3_), (4, .int x4_), (5, .int x5_)] [] μ) (fun x3 x4 x5 μ ht => so_X1_nextHead_6 C hr (fun x3 x4 x5 μ hk => hk) x3 x4 x5 μ ht) 
  exact so_X1_nextHead_0 C hr (fun x3 x4 x5 μ hk => hk) x3 μ h0
set_option maxRecDepth 10000 in
set_option maxHeartbeats 4000000 in
theorem so_X1_gatherKind_3 {p : Program} {l : Launch} {e : Env} {s : State} {m : MethodId} {args : Array Value} {below : List Frame} {meth : Method} {c : Code} {E : EvT} {P : MemT → Prop} (C : Cx p s m args meth c E cX1_gatherKind 6 RX1) (hr : meth.sig.returnType = none) {K3 : Int32 → Int32 → MemT → Prop} (hK3 : ∀ (x3 : Int32) (x4 : Int32) (μ : MemT), K3 x3 x4 μ → V p l e (rmN 2 49) s m args below meth c E 6 0 0 (MQ below (va_Qv P (wdP E) (eA E s.heap.size)) args s 0 0 (eA E s.heap.size)) 3 [(0, .ref (eAd E 4)), (1, .ref (eAd E 1)), (2, .ref (eAd E 3)), (3, .int x3), (4, .int x4)] [] μ) (x3 : Int32) (x4 : Int32) (μ : MemT) (h : t_X1_gatherKind_3 K3 P x3 x4 μ) : V p l e (rmN 2 49) s m args below meth c E 6 0 0 (MQ below (va_Qv P (wdP E) (eA E s.heap.size)) args s 0 0 (eA E s.heap.size)) 3 [(0, .ref (eAd E 4)), (1, .ref (eAd E 1)), (2, .ref (eAd E 3)), (3, .int x3), (4, .int x4)] [] μ := by
  unfold t_X1_gatherKind_3 at h
  refine v_iload C 4 rfl dX1_gatherKind_3 ?_
  refine v_aload_n C 1 rfl rfl dX1_gatherKind_5 ?_
  refine gf_X1_28 C dX1_gatherKind_6 ?_
  refine v_icmp_ge C 41 (by decide) dX1_gatherKind_9 (fun q9 => ?_) (fun q9 => ?_)
  · replace h := h.1 q9
    exact v_vret C hr h dX1_gatherKind_41
  · replace h := h.2 q9
    refine v_aload_n C 0 rfl rfl dX1_gatherKind_12 ?_
    refine v_aload_n C 1 rfl rfl dX1_gatherKind_13 ?_
    refine v_aload_n C 2 rfl rfl dX1_gatherKind_14 ?_
    refine v_iload_n C 3 rfl rfl dX1_gatherKind_15 ?_
    obtain ⟨P1, hs, h⟩ := h
    refine v_callVi C 4 [.ref (eAd E 1), .ref (eAd E 3), .int x3] (by decide) rfl rfl rfl (so_X1_nextHead x3 μ P1 hs) gw_X1_35 rfl rfl dd_X1_nextHead ⟨by decide, by decide⟩ rfl rfl (Nat.le_of_ble_eq_true rfl) ⟨by decide, by decide⟩ dX1_gatherKind_16 (fun r4 μ2 q3 => ?_)
    replace h := h r4 μ2 q3
    refine v_istore C [(5, .int r4), (0, .ref (eAd E 4)), (1, .ref (eAd E 1)), (2, .ref (eAd E 3)), (3, .int x3), (4, .int x4)] (by decide) rfl dX1_gatherKind_19 ?_
    refine v_iload C 0 rfl dX1_gatherKind_21 ?_
    refine v_if_ge C 27 (by decide) dX1_gatherKind_23 (fun q8 => ?_) (fun q8 => ?_)
    · replace h := h.1 q8
      refine v_aload_n C 1 rfl rfl dX1_gatherKind_27 ?_
      refine v_aload_n C 2 rfl rfl dX1_gatherKind_28 ?_
      refine v_aload_n C 3 rfl rfl dX1_gatherKind_29 ?_
      refine v_iload C 0 rfl dX1_gatherKind_30 ?_
      obtain ⟨P5, hs, h⟩ := h
      refine v_callVv C 4 [.ref (eAd E 1), .ref (eAd E 3), .int r4] (by decide) rfl rfl rfl (so_X1_gatherLine r4 μ2 P5 hs) gw_X1_39 rfl rfl dd_X1_gatherLine ⟨by decide, by decide⟩ rfl rfl (Nat.le_of_ble_eq_true rfl) ⟨by decide, by decide⟩ dX1_gatherKind_32 (fun μ6 q7 => ?_)
      replace h := h μ6 q7
      refine v_iinc (v := (x4 + 1)) C 5 [(4, .int (x4 + 1)), (5, .int r4), (0, .ref (eAd E 4)), (1, .ref (eAd E 1)), (2, .ref (eAd E 3)), (3, .int x3)] rfl rfl (by decide) rfl dX1_gatherKind_35 ?_
      refine v_goto C 3 (by decide) dX1_gatherKind_38 ?_
      refine v_sub C [2, 3, 4, 5, 0] rfl ?_
      exact hK3 _ _ _ h
    · replace h := h.2 q8
      exact v_vret C hr h dX1_gatherKind_26
set_option maxRecDepth 10000 in
set_option maxHeartbeats 4000000 in
theorem so_X1_gatherKind_0 {p : Program} {l : Launch} {e : Env} {s : State} {m : MethodId} {args : Array Value} {below : List Frame} {meth : Method} {c : Code} {E : EvT} {P : MemT → Prop} (C : Cx p s m args meth c E cX1_gatherKind 6 RX1) (hr : meth.sig.returnType = none) {K3 : Int32 → Int32 → MemT → Prop} (hK3 : ∀ (x3 : Int32) (x4 : Int32) (μ : MemT), K3 x3 x4 μ → V p l e (rmN 2 49) s m args below meth c E 6 0 0 (MQ below (va_Qv P (wdP E) (eA E s.heap.size)) args s 0 0 (eA E s.heap.size)) 3 [(0, .ref (eAd E 4)), (1, .ref (eAd E 1)), (2, .ref (eAd E 3)), (3, .int x3), (4, .int x4)] [] μ) (x3 : Int32) (μ : MemT) (h : t_X1_gatherKind_0 K3 P x3 μ) : V p l e (rmN 2 49) s m args below meth c E 6 0 0 (MQ below (va_Qv P (wdP E) (eA E s.heap.size)) args s 0 0 (eA E s.heap.size)) 0 [(0, .ref (eAd E 4)), (1, .ref (eAd E 1)), (2, .ref (eAd E 3)), (3, .int x3)] [] μ := by
  unfold t_X1_gatherKind_0 at h
  refine v_iconst (v := (0 : Int32)) C dX1_gatherKind_0 (by decide) ?_
  refine v_istore C [(4, .int (0 : Int32)), (0, .ref (eAd E 4)), (1, .ref (eAd E 1)), (2, .ref (eAd E 3)), (3, .int x3)] (by decide) rfl dX1_gatherKind_1 ?_
  refine v_sub C [1, 2, 3, 4, 0] rfl ?_
  exact hK3 _ _ _ h
set_option maxRecDepth 10000 in
set_option maxHeartbeats 4000000 in
theorem so_X1_gatherKind {l : Launch} {E : EvT} (x3 : Int32) (μ : MemT) (P : MemT → Prop) (h : sp_X1_gatherKind x3 μ P) : MCv l E yX1_gatherKind cX1_gatherKind 6 none (rmN 2 49) [.ref (eAd E 4), .ref (eAd E 1), .ref (eAd E 3), .int x3] μ P := by
  refine mc_entryv (by decide +kernel) (Nat.le_of_ble_eq_true rfl) (fun p e s m below meth c C hr => ?_)
  have h0 := h (fun x3_ x4_ μ => V p l e (rmN 2 49) s m ([.ref (eAd E 4), .ref (eAd E 1), .ref (eAd E 3), .int x3] : List Value).toArray below meth c E 6 0 0 (MQ below (va_Qv P (wdP E) (eA E s.heap.size)) ([.ref (eAd E 4), .ref (eAd E 1), .ref (eAd E 3), .int x3] : List Value).toArray s 0 0 (eA E s.heap.size)) 3 [(0, .ref (eAd E 4)), (1, .ref (eAd E 1)), (2, .ref (eAd E 3)), (3, .int x3_), (4, .int x4_)] [] μ) (fun x3 x4 μ ht => so_X1_gatherKind_3 C hr (fun x3 x4 μ hk => hk) x3 x4 μ ht) 
  exact so_X1_gatherKind_0 C hr (fun x3 x4 μ hk => hk) x3 μ h0
set_option maxRecDepth 10000 in
set_option maxHeartbeats 4000000 in
theorem so_X1_gather_49 {p : Program} {l : Launch} {e : Env} {s : State} {m : MethodId} {args : Array Value} {below : List Frame} {meth : Method} {c : Code} {E : EvT} {P : MemT → Prop} (C : Cx p s m args meth c E cX1_gather 4 RX1) (hr : meth.sig.returnType = none) {K12 : Int32 → MemT → Prop} (hK12 : ∀ (x3 : Int32) (μ : MemT), K12 x3 μ → V p l e (rmN 3 74) s m args below meth c E 4 0 0 (MQ below (va_Qv P (wdP E) (eA E s.heap.size)) args s 0 0 (eA E s.heap.size)) 12 [(0, .ref (eAd E 4)), (1, .ref (eAd E 1)), (2, .ref (eAd E 3)), (3, .int x3)] [] μ) {K49 : Int32 → MemT → Prop} (hK49 : ∀ (x3 : Int32) (μ : MemT), K49 x3 μ → V p l e (rmN 3 74) s m args below meth c E 4 0 0 (MQ below (va_Qv P (wdP E) (eA E s.heap.size)) args s 0 0 (eA E s.heap.size)) 49 [(0, .ref (eAd E 4)), (1, .ref (eAd E 1)), (2, .ref (eAd E 3)), (3, .int x3)] [] μ) (x3 : Int32) (μ : MemT) (h : t_X1_gather_49 K12 K49 P x3 μ) : V p l e (rmN 3 74) s m args below meth c E 4 0 0 (MQ below (va_Qv P (wdP E) (eA E s.heap.size)) args s 0 0 (eA E s.heap.size)) 49 [(0, .ref (eAd E 4)), (1, .ref (eAd E 1)), (2, .ref (eAd E 3)), (3, .int x3)] [] μ := by
  unfold t_X1_gather_49 at h
  refine v_iload_n C 3 rfl rfl dX1_gather_49 ?_
  refine v_aload_n C 0 rfl rfl dX1_gather_50 ?_
  refine gf_X1_15 C dX1_gather_51 ?_
  refine v_icmp_ge C 75 (by decide) dX1_gather_54 (fun q4 => ?_) (fun q4 => ?_)
  · replace h := h.1 q4
    exact v_vret C hr h dX1_gather_75
  · replace h := h.2 q4
    refine v_aload_n C 0 rfl rfl dX1_gather_57 ?_
    refine gf_X1_22 C dX1_gather_58 ?_
    refine v_aload_n C 0 rfl rfl dX1_gather_61 ?_
    refine gf_X1_18 C dX1_gather_62 ?_
    refine v_iload_n C 3 rfl rfl dX1_gather_65 ?_
    obtain ⟨b1, h⟩ := h
    refine v_iald C 24 (by decide) rfl b1 dX1_gather_66 ?_
    refine v_iload_n C 3 rfl rfl dX1_gather_67 ?_
    obtain ⟨b2, h⟩ := h
    refine v_iast C 25 (by decide) rfl b2 dX1_gather_68 ?_
    refine v_nmM (fun μ3 e_μ3 => ?_)
    replace h := h μ3 e_μ3
    refine v_iinc (v := (x3 + 1)) C 3 [(3, .int (x3 + 1)), (0, .ref (eAd E 4)), (1, .ref (eAd E 1)), (2, .ref (eAd E 3))] rfl rfl (by decide) rfl dX1_gather_69 ?_
    refine v_goto C 49 (by decide) dX1_gather_72 ?_
    refine v_sub C [1, 2, 3, 0] rfl ?_
    exact hK49 _ _ h
set_option maxRecDepth 10000 in
set_option maxHeartbeats 4000000 in
theorem so_X1_gather_12 {p : Program} {l : Launch} {e : Env} {s : State} {m : MethodId} {args : Array Value} {below : List Frame} {meth : Method} {c : Code} {E : EvT} {P : MemT → Prop} (C : Cx p s m args meth c E cX1_gather 4 RX1) (hr : meth.sig.returnType = none) {K12 : Int32 → MemT → Prop} (hK12 : ∀ (x3 : Int32) (μ : MemT), K12 x3 μ → V p l e (rmN 3 74) s m args below meth c E 4 0 0 (MQ below (va_Qv P (wdP E) (eA E s.heap.size)) args s 0 0 (eA E s.heap.size)) 12 [(0, .ref (eAd E 4)), (1, .ref (eAd E 1)), (2, .ref (eAd E 3)), (3, .int x3)] [] μ) {K49 : Int32 → MemT → Prop} (hK49 : ∀ (x3 : Int32) (μ : MemT), K49 x3 μ → V p l e (rmN 3 74) s m args below meth c E 4 0 0 (MQ below (va_Qv P (wdP E) (eA E s.heap.size)) args s 0 0 (eA E s.heap.size)) 49 [(0, .ref (eAd E 4)), (1, .ref (eAd E 1)), (2, .ref (eAd E 3)), (3, .int x3)] [] μ) (x3 : Int32) (μ : MemT) (h : t_X1_gather_12 K12 K49 P x3 μ) : V p l e (rmN 3 74) s m args below meth c E 4 0 0 (MQ below (va_Qv P (wdP E) (eA E s.heap.size)) args s 0 0 (eA E s.heap.size)) 12 [(0, .ref (eAd E 4)), (1, .ref (eAd E 1)), (2, .ref (eAd E 3)), (3, .int x3)] [] μ := by
  unfold t_X1_gather_12 at h
  refine v_iload_n C 3 rfl rfl dX1_gather_12 ?_
  refine v_aload_n C 1 rfl rfl dX1_gather_13 ?_
  refine gf_X1_28 C dX1_gather_14 ?_
  refine v_icmp_ge C 33 (by decide) dX1_gather_17 (fun q9 => ?_) (fun q9 => ?_)
  · replace h := h.1 q9
    refine v_aload_n C 0 rfl rfl dX1_gather_33 ?_
    refine v_aload_n C 1 rfl rfl dX1_gather_34 ?_
    refine v_aload_n C 2 rfl rfl dX1_gather_35 ?_
    refine v_iconst (v := (0 : Int32)) C dX1_gather_36 (by decide) ?_
    obtain ⟨P1, hs, h⟩ := h
    refine v_callVv C 4 [.ref (eAd E 1), .ref (eAd E 3), .int (0 : Int32)] (by decide) rfl rfl rfl (so_X1_gatherKind (0 : Int32) μ P1 hs) gw_X1_31 rfl rfl dd_X1_gatherKind ⟨by decide, by decide⟩ rfl rfl (Nat.le_of_ble_eq_true rfl) ⟨by decide, by decide⟩ dX1_gather_37 (fun μ2 q3 => ?_)
    replace h := h μ2 q3
    refine v_aload_n C 0 rfl rfl dX1_gather_40 ?_
    refine v_aload_n C 1 rfl rfl dX1_gather_41 ?_
    refine v_aload_n C 2 rfl rfl dX1_gather_42 ?_
    refine v_iconst (v := (1 : Int32)) C dX1_gather_43 (by decide) ?_
    obtain ⟨P4, hs, h⟩ := h
    refine v_callVv C 4 [.ref (eAd E 1), .ref (eAd E 3), .int (1 : Int32)] (by decide) rfl rfl rfl (so_X1_gatherKind (1 : Int32) μ2 P4 hs) gw_X1_31 rfl rfl dd_X1_gatherKind ⟨by decide, by decide⟩ rfl rfl (Nat.le_of_ble_eq_true rfl) ⟨by decide, by decide⟩ dX1_gather_44 (fun μ5 q6 => ?_)
    replace h := h μ5 q6
    refine v_iconst (v := (0 : Int32)) C dX1_gather_47 (by decide) ?_
    refine v_istore_n C [(3, .int (0 : Int32)), (0, .ref (eAd E 4)), (1, .ref (eAd E 1)), (2, .ref (eAd E 3))] rfl (by decide) rfl dX1_gather_48 ?_
    refine v_sub C [1, 2, 3, 0] rfl ?_
    exact hK49 _ _ h
  · replace h := h.2 q9
    refine v_aload_n C 0 rfl rfl dX1_gather_20 ?_
    refine gf_X1_25 C dX1_gather_21 ?_
    refine v_iload_n C 3 rfl rfl dX1_gather_24 ?_
    refine v_iconst (v := (-1 : Int32)) C dX1_gather_25 (by decide) ?_
    obtain ⟨b7, h⟩ := h
    refine v_iast C 26 (by decide) rfl b7 dX1_gather_26 ?_
    refine v_nmM (fun μ8 e_μ8 => ?_)
    replace h := h μ8 e_μ8
    refine v_iinc (v := (x3 + 1)) C 3 [(3, .int (x3 + 1)), (0, .ref (eAd E 4)), (1, .ref (eAd E 1)), (2, .ref (eAd E 3))] rfl rfl (by decide) rfl dX1_gather_27 ?_
    refine v_goto C 12 (by decide) dX1_gather_30 ?_
    refine v_sub C [1, 2, 3, 0] rfl ?_
    exact hK12 _ _ h
set_option maxRecDepth 10000 in
set_option maxHeartbeats 4000000 in
theorem so_X1_gather_0 {p : Program} {l : Launch} {e : Env} {s : State} {m : MethodId} {args : Array Value} {below : List Frame} {meth : Method} {c : Code} {E : EvT} {P : MemT → Prop} (C : Cx p s m args meth c E cX1_gather 4 RX1) (hr : meth.sig.returnType = none) {K12 : Int32 → MemT → Prop} (hK12 : ∀ (x3 : Int32) (μ : MemT), K12 x3 μ → V p l e (rmN 3 74) s m args below meth c E 4 0 0 (MQ below (va_Qv P (wdP E) (eA E s.heap.size)) args s 0 0 (eA E s.heap.size)) 12 [(0, .ref (eAd E 4)), (1, .ref (eAd E 1)), (2, .ref (eAd E 3)), (3, .int x3)] [] μ) {K49 : Int32 → MemT → Prop} (hK49 : ∀ (x3 : Int32) (μ : MemT), K49 x3 μ → V p l e (rmN 3 74) s m args below meth c E 4 0 0 (MQ below (va_Qv P (wdP E) (eA E s.heap.size)) args s 0 0 (eA E s.heap.size)) 49 [(0, .ref (eAd E 4)), (1, .ref (eAd E 1)), (2, .ref (eAd E 3)), (3, .int x3)] [] μ) (μ : MemT) (h : t_X1_gather_0 K12 K49 P  μ) : V p l e (rmN 3 74) s m args below meth c E 4 0 0 (MQ below (va_Qv P (wdP E) (eA E s.heap.size)) args s 0 0 (eA E s.heap.size)) 0 [(0, .ref (eAd E 4)), (1, .ref (eAd E 1)), (2, .ref (eAd E 3))] [] μ := by
  unfold t_X1_gather_0 at h
  refine v_aload_n C 0 rfl rfl dX1_gather_0 ?_
  refine v_iconst (v := (0 : Int32)) C dX1_gather_1 (by decide) ?_
  refine pf_X1_9 C dX1_gather_2 ?_
  refine v_nmM (fun μ1 e_μ1 => ?_)
  replace h := h μ1 e_μ1
  refine v_aload_n C 0 rfl rfl dX1_gather_5 ?_
  refine v_iconst (v := (0 : Int32)) C dX1_gather_6 (by decide) ?_
  refine pf_X1_15 C dX1_gather_7 ?_
  refine v_nmM (fun μ2 e_μ2 => ?_)
  replace h := h μ2 e_μ2
  refine v_iconst (v := (0 : Int32)) C dX1_gather_10 (by decide) ?_
  refine v_istore_n C [(3, .int (0 : Int32)), (0, .ref (eAd E 4)), (1, .ref (eAd E 1)), (2, .ref (eAd E 3))] rfl (by decide) rfl dX1_gather_11 ?_
  refine v_sub C [1, 2, 3, 0] rfl ?_
  exact hK12 _ _ h
set_option maxRecDepth 10000 in
set_option maxHeartbeats 4000000 in
theorem so_X1_gather {l : Launch} {E : EvT} (μ : MemT) (P : MemT → Prop) (h : sp_X1_gather  μ P) : MCv l E yX1_gather cX1_gather 4 none (rmN 3 74) [.ref (eAd E 4), .ref (eAd E 1), .ref (eAd E 3)] μ P := by
  refine mc_entryv (by decide +kernel) (Nat.le_of_ble_eq_true rfl) (fun p e s m below meth c C hr => ?_)
  have h0 := h (fun x3_ μ => V p l e (rmN 3 74) s m ([.ref (eAd E 4), .ref (eAd E 1), .ref (eAd E 3)] : List Value).toArray below meth c E 4 0 0 (MQ below (va_Qv P (wdP E) (eA E s.heap.size)) ([.ref (eAd E 4), .ref (eAd E 1), .ref (eAd E 3)] : List Value).toArray s 0 0 (eA E s.heap.size)) 12 [(0, .ref (eAd E 4)), (1, .ref (eAd E 1)), (2, .ref (eAd E 3)), (3, .int x3_)] [] μ) (fun x3_ μ => V p l e (rmN 3 74) s m ([.ref (eAd E 4), .ref (eAd E 1), .ref (eAd E 3)] : List Value).toArray below meth c E 4 0 0 (MQ below (va_Qv P (wdP E) (eA E s.heap.size)) ([.ref (eAd E 4), .ref (eAd E 1), .ref (eAd E 3)] : List Value).toArray s 0 0 (eA E s.heap.size)) 49 [(0, .ref (eAd E 4)), (1, .ref (eAd E 1)), (2, .ref (eAd E 3)), (3, .int x3_)] [] μ) (fun x3 μ ht => so_X1_gather_12 C hr (fun x3 μ hk => hk) (fun x3 μ hk => hk) x3 μ ht) (fun x3 μ ht => so_X1_gather_49 C hr (fun x3 μ hk => hk) (fun x3 μ hk => hk) x3 μ ht) 
  exact so_X1_gather_0 C hr (fun x3 μ hk => hk) (fun x3 μ hk => hk)  μ h0
set_option maxRecDepth 10000 in
set_option maxHeartbeats 4000000 in
theorem so_X2_told_0 {p : Program} {l : Launch} {e : Env} {s : State} {m : MethodId} {args : Array Value} {below : List Frame} {meth : Method} {c : Code} {E : EvT} {P : Int32 → MemT → Prop} (C : Cx p s m args meth c E cX2_told 4 RX2) (hr : meth.sig.returnType = (some .int)) (x1 : Int32) (x2 : Int32) (μ : MemT) (h : t_X2_told_0 P x1 x2 μ) : V p l e (rmN 0 0) s m args below meth c E 4 0 0 (MQ below (va_Qi P (wdP E) (eA E s.heap.size)) args s 0 0 (eA E s.heap.size)) 0 [(0, .ref (eAd E 2)), (1, .int x1), (2, .int x2)] [] μ := by
  unfold t_X2_told_0 at h
  refine v_iload_n C 1 rfl rfl dX2_told_0 ?_
  refine v_sipush (v := (256 : Int32)) C dX2_told_1 (by decide) ?_
  refine v_imul C dX2_told_4 ?_
  refine v_iload_n C 2 rfl rfl dX2_told_5 ?_
  refine v_iadd C dX2_told_6 ?_
  refine v_istore_n C [(3, .int ((x1 * (256 : Int32)) + x2)), (0, .ref (eAd E 2)), (1, .int x1), (2, .int x2)] rfl (by decide) rfl dX2_told_7 ?_
  refine v_aload_n C 1 rfl rfl dX2_told_8 ?_
  refine gf_X2_9 C dX2_told_9 ?_
  refine v_iload_n C 0 rfl rfl dX2_told_12 ?_
  obtain ⟨b1, h⟩ := h
  refine v_iald C 17 (by decide) rfl b1 dX2_told_13 ?_
  refine v_if_ne C 19 (by decide) dX2_told_14 (fun q4 => ?_) (fun q4 => ?_)
  · replace h := h.1 q4
    refine v_aload_n C 1 rfl rfl dX2_told_19 ?_
    refine gf_X2_15 C dX2_told_20 ?_
    refine v_iload_n C 0 rfl rfl dX2_told_23 ?_
    obtain ⟨b2, h⟩ := h
    refine v_iald C 18 (by decide) rfl b2 dX2_told_24 ?_
    refine v_if_ne C 32 (by decide) dX2_told_25 (fun q3 => ?_) (fun q3 => ?_)
    · replace h := h.1 q3
      refine v_iconst (v := (2 : Int32)) C dX2_told_32 (by decide) ?_
      exact v_iret C hr h dX2_told_33
    · replace h := h.2 q3
      refine v_iconst (v := (1 : Int32)) C dX2_told_28 (by decide) ?_
      refine v_goto C 33 (by decide) dX2_told_29 ?_
      exact v_iret C hr h dX2_told_33
  · replace h := h.2 q4
    refine v_iconst (v := (0 : Int32)) C dX2_told_17 (by decide) ?_
    exact v_iret C hr h dX2_told_18
set_option maxRecDepth 10000 in
set_option maxHeartbeats 4000000 in
theorem so_X2_told {l : Launch} {E : EvT} (x1 : Int32) (x2 : Int32) (μ : MemT) (P : Int32 → MemT → Prop) (h : sp_X2_told x1 x2 μ P) : MCi l E yX2_told cX2_told 4 (some .int) (rmN 0 0) [.ref (eAd E 2), .int x1, .int x2] μ P := by
  refine mc_entryi (by decide +kernel) (Nat.le_of_ble_eq_true rfl) (fun p e s m below meth c C hr => ?_)
  exact so_X2_told_0 C hr x1 x2 μ h
set_option maxRecDepth 10000 in
set_option maxHeartbeats 4000000 in
theorem so_X2_tell_0 {p : Program} {l : Launch} {e : Env} {s : State} {m : MethodId} {args : Array Value} {below : List Frame} {meth : Method} {c : Code} {E : EvT} {P : MemT → Prop} (C : Cx p s m args meth c E cX2_tell 6 RX2) (hr : meth.sig.returnType = none) (x1 : Int32) (x2 : Int32) (x3 : Int32) (x4 : Int32) (μ : MemT) (h : t_X2_tell_0 P x1 x2 x3 x4 μ) : V p l e (rmN 0 0) s m args below meth c E 6 0 0 (MQ below (va_Qv P (wdP E) (eA E s.heap.size)) args s 0 0 (eA E s.heap.size)) 0 [(0, .ref (eAd E 2)), (1, .int x1), (2, .int x2), (3, .int x3), (4, .int x4)] [] μ := by
  unfold t_X2_tell_0 at h
  refine v_iload_n C 1 rfl rfl dX2_tell_0 ?_
  refine v_sipush (v := (256 : Int32)) C dX2_tell_1 (by decide) ?_
  refine v_imul C dX2_tell_4 ?_
  refine v_iload_n C 2 rfl rfl dX2_tell_5 ?_
  refine v_iadd C dX2_tell_6 ?_
  refine v_istore C [(5, .int ((x1 * (256 : Int32)) + x2)), (0, .ref (eAd E 2)), (1, .int x1), (2, .int x2), (3, .int x3), (4, .int x4)] (by decide) rfl dX2_tell_7 ?_
  refine v_aload_n C 1 rfl rfl dX2_tell_9 ?_
  refine gf_X2_9 C dX2_tell_10 ?_
  refine v_iload C 0 rfl dX2_tell_13 ?_
  refine v_iload_n C 4 rfl rfl dX2_tell_15 ?_
  obtain ⟨b1, h⟩ := h
  refine v_iast C 17 (by decide) rfl b1 dX2_tell_16 ?_
  refine v_nmM (fun μ2 e_μ2 => ?_)
  replace h := h μ2 e_μ2
  refine v_aload_n C 1 rfl rfl dX2_tell_17 ?_
  refine gf_X2_15 C dX2_tell_18 ?_
  refine v_iload C 0 rfl dX2_tell_21 ?_
  refine v_iload C 5 rfl dX2_tell_23 ?_
  obtain ⟨b3, h⟩ := h
  refine v_iast C 18 (by decide) rfl b3 dX2_tell_25 ?_
  refine v_nmM (fun μ4 e_μ4 => ?_)
  replace h := h μ4 e_μ4
  exact v_vret C hr h dX2_tell_26
set_option maxRecDepth 10000 in
set_option maxHeartbeats 4000000 in
theorem so_X2_tell {l : Launch} {E : EvT} (x1 : Int32) (x2 : Int32) (x3 : Int32) (x4 : Int32) (μ : MemT) (P : MemT → Prop) (h : sp_X2_tell x1 x2 x3 x4 μ P) : MCv l E yX2_tell cX2_tell 6 none (rmN 0 0) [.ref (eAd E 2), .int x1, .int x2, .int x3, .int x4] μ P := by
  refine mc_entryv (by decide +kernel) (Nat.le_of_ble_eq_true rfl) (fun p e s m below meth c C hr => ?_)
  exact so_X2_tell_0 C hr x1 x2 x3 x4 μ h
set_option maxRecDepth 10000 in
set_option maxHeartbeats 4000000 in
theorem so_X2_kindThatTells_2 {p : Program} {l : Launch} {e : Env} {s : State} {m : MethodId} {args : Array Value} {below : List Frame} {meth : Method} {c : Code} {E : EvT} {P : Int32 → MemT → Prop} (C : Cx p s m args meth c E cX2_kindThatTells 3 RX2) (hr : meth.sig.returnType = (some .int)) {K2 : Int32 → Int32 → MemT → Prop} (hK2 : ∀ (x1 : Int32) (x2 : Int32) (μ : MemT), K2 x1 x2 μ → V p l e (rmN 0 0) s m args below meth c E 3 0 0 (MQ below (va_Qi P (wdP E) (eA E s.heap.size)) args s 0 0 (eA E s.heap.size)) 2 [(0, .ref (eAd E 2)), (1, .int x1), (2, .int x2)] [] μ) (x1 : Int32) (x2 : Int32) (μ : MemT) (h : t_X2_kindThatTells_2 K2 P x1 x2 μ) : V p l e (rmN 0 0) s m args below meth c E 3 0 0 (MQ below (va_Qi P (wdP E) (eA E s.heap.size)) args s 0 0 (eA E s.heap.size)) 2 [(0, .ref (eAd E 2)), (1, .int x1), (2, .int x2)] [] μ := by
  unfold t_X2_kindThatTells_2 at h
  refine v_iload_n C 2 rfl rfl dX2_kindThatTells_2 ?_
  refine v_iconst (v := (4 : Int32)) C dX2_kindThatTells_3 (by decide) ?_
  refine v_icmp_ge C 30 (by decide) dX2_kindThatTells_4 (fun q3 => ?_) (fun q3 => ?_)
  · replace h := h.1 q3
    refine v_iconst (v := (-1 : Int32)) C dX2_kindThatTells_30 (by decide) ?_
    exact v_iret C hr h dX2_kindThatTells_31
  · replace h := h.2 q3
    refine v_aload_n C 0 rfl rfl dX2_kindThatTells_7 ?_
    refine gf_X2_9 C dX2_kindThatTells_8 ?_
    refine v_iload_n C 2 rfl rfl dX2_kindThatTells_11 ?_
    refine v_sipush (v := (256 : Int32)) C dX2_kindThatTells_12 (by decide) ?_
    refine v_imul C dX2_kindThatTells_15 ?_
    refine v_iload_n C 1 rfl rfl dX2_kindThatTells_16 ?_
    refine v_iadd C dX2_kindThatTells_17 ?_
    obtain ⟨b1, h⟩ := h
    refine v_iald C 17 (by decide) rfl b1 dX2_kindThatTells_18 ?_
    refine v_if_eq C 24 (by decide) dX2_kindThatTells_19 (fun q2 => ?_) (fun q2 => ?_)
    · replace h := h.1 q2
      refine v_iinc (v := (x2 + 1)) C 2 [(2, .int (x2 + 1)), (0, .ref (eAd E 2)), (1, .int x1)] rfl rfl (by decide) rfl dX2_kindThatTells_24 ?_
      refine v_goto C 2 (by decide) dX2_kindThatTells_27 ?_
      refine v_sub C [1, 2, 0] rfl ?_
      exact hK2 _ _ _ h
    · replace h := h.2 q2
      refine v_iload_n C 2 rfl rfl dX2_kindThatTells_22 ?_
      exact v_iret C hr h dX2_kindThatTells_23
set_option maxRecDepth 10000 in
set_option maxHeartbeats 4000000 in
theorem so_X2_kindThatTells_0 {p : Program} {l : Launch} {e : Env} {s : State} {m : MethodId} {args : Array Value} {below : List Frame} {meth : Method} {c : Code} {E : EvT} {P : Int32 → MemT → Prop} (C : Cx p s m args meth c E cX2_kindThatTells 3 RX2) (hr : meth.sig.returnType = (some .int)) {K2 : Int32 → Int32 → MemT → Prop} (hK2 : ∀ (x1 : Int32) (x2 : Int32) (μ : MemT), K2 x1 x2 μ → V p l e (rmN 0 0) s m args below meth c E 3 0 0 (MQ below (va_Qi P (wdP E) (eA E s.heap.size)) args s 0 0 (eA E s.heap.size)) 2 [(0, .ref (eAd E 2)), (1, .int x1), (2, .int x2)] [] μ) (x1 : Int32) (μ : MemT) (h : t_X2_kindThatTells_0 K2 P x1 μ) : V p l e (rmN 0 0) s m args below meth c E 3 0 0 (MQ below (va_Qi P (wdP E) (eA E s.heap.size)) args s 0 0 (eA E s.heap.size)) 0 [(0, .ref (eAd E 2)), (1, .int x1)] [] μ := by
  unfold t_X2_kindThatTells_0 at h
  refine v_iconst (v := (0 : Int32)) C dX2_kindThatTells_0 (by decide) ?_
  refine v_istore_n C [(2, .int (0 : Int32)), (0, .ref (eAd E 2)), (1, .int x1)] rfl (by decide) rfl dX2_kindThatTells_1 ?_
  refine v_sub C [1, 2, 0] rfl ?_
  exact hK2 _ _ _ h
set_option maxRecDepth 10000 in
set_option maxHeartbeats 4000000 in
theorem so_X2_kindThatTells {l : Launch} {E : EvT} (x1 : Int32) (μ : MemT) (P : Int32 → MemT → Prop) (h : sp_X2_kindThatTells x1 μ P) : MCi l E yX2_kindThatTells cX2_kindThatTells 3 (some .int) (rmN 0 0) [.ref (eAd E 2), .int x1] μ P := by
  refine mc_entryi (by decide +kernel) (Nat.le_of_ble_eq_true rfl) (fun p e s m below meth c C hr => ?_)
  have h0 := h (fun x1_ x2_ μ => V p l e (rmN 0 0) s m ([.ref (eAd E 2), .int x1] : List Value).toArray below meth c E 3 0 0 (MQ below (va_Qi P (wdP E) (eA E s.heap.size)) ([.ref (eAd E 2), .int x1] : List Value).toArray s 0 0 (eA E s.heap.size)) 2 [(0, .ref (eAd E 2)), (1, .int x1_), (2, .int x2_)] [] μ) (fun x1 x2 μ ht => so_X2_kindThatTells_2 C hr (fun x1 x2 μ hk => hk) x1 x2 μ ht) 
  exact so_X2_kindThatTells_0 C hr (fun x1 x2 μ hk => hk) x1 μ h0
set_option maxRecDepth 10000 in
set_option maxHeartbeats 4000000 in
theorem so_X3_isDouble_0 {p : Program} {l : Launch} {e : Env} {s : State} {m : MethodId} {args : Array Value} {below : List Frame} {meth : Method} {c : Code} {E : EvT} {P : Int32 → MemT → Prop} (C : Cx p s m args meth c E cX3_isDouble 4 RX3) (hr : meth.sig.returnType = (some .boolean)) (x2 : Int32) (x3 : Int32) (μ : MemT) (h : t_X3_isDouble_0 P x2 x3 μ) : V p l e (rmN 1 24) s m args below meth c E 4 0 0 (MQ below (va_Qi P (wdP E) (eA E s.heap.size)) args s 0 0 (eA E s.heap.size)) 0 [(0, .ref (eAd E 3)), (1, .ref (eAd E 1)), (2, .int x2), (3, .int x3)] [] μ := by
  unfold t_X3_isDouble_0 at h
  refine v_aload_n C 0 rfl rfl dX3_isDouble_0 ?_
  refine gf_X3_18 C dX3_isDouble_1 ?_
  refine v_iload_n C 2 rfl rfl dX3_isDouble_4 ?_
  obtain ⟨b1, h⟩ := h
  refine v_iald C 21 (by decide) rfl b1 dX3_isDouble_5 ?_
  refine v_aload_n C 0 rfl rfl dX3_isDouble_6 ?_
  refine gf_X3_18 C dX3_isDouble_7 ?_
  refine v_iload_n C 3 rfl rfl dX3_isDouble_10 ?_
  obtain ⟨b2, h⟩ := h
  refine v_iald C 21 (by decide) rfl b2 dX3_isDouble_11 ?_
  refine v_icmp_ne C 110 (by decide) dX3_isDouble_12 (fun q17 => ?_) (fun q17 => ?_)
  · replace h := h.1 q17
    refine v_iconst (v := (0 : Int32)) C dX3_isDouble_110 (by decide) ?_
    exact v_zret C hr nb0 h dX3_isDouble_111
  · replace h := h.2 q17
    refine v_aload_n C 0 rfl rfl dX3_isDouble_15 ?_
    refine gf_X3_22 C dX3_isDouble_16 ?_
    refine v_iload_n C 2 rfl rfl dX3_isDouble_19 ?_
    obtain ⟨b3, h⟩ := h
    refine v_iald C 22 (by decide) rfl b3 dX3_isDouble_20 ?_
    refine v_aload_n C 0 rfl rfl dX3_isDouble_21 ?_
    refine gf_X3_22 C dX3_isDouble_22 ?_
    refine v_iload_n C 3 rfl rfl dX3_isDouble_25 ?_
    obtain ⟨b4, h⟩ := h
    refine v_iald C 22 (by decide) rfl b4 dX3_isDouble_26 ?_
    refine v_icmp_ne C 110 (by decide) dX3_isDouble_27 (fun q16 => ?_) (fun q16 => ?_)
    · replace h := h.1 q16
      refine v_iconst (v := (0 : Int32)) C dX3_isDouble_110 (by decide) ?_
      exact v_zret C hr nb0 h dX3_isDouble_111
    · replace h := h.2 q16
      refine v_aload_n C 1 rfl rfl dX3_isDouble_30 ?_
      refine gf_X3_34 C dX3_isDouble_31 ?_
      refine v_iload_n C 2 rfl rfl dX3_isDouble_34 ?_
      obtain ⟨b5, h⟩ := h
      refine v_zald C 15 (by decide) rfl b5 dX3_isDouble_35 ?_
      refine v_aload_n C 1 rfl rfl dX3_isDouble_36 ?_
      refine gf_X3_34 C dX3_isDouble_37 ?_
      refine v_iload_n C 3 rfl rfl dX3_isDouble_40 ?_
      obtain ⟨b6, h⟩ := h
      refine v_zald C 15 (by decide) rfl b6 dX3_isDouble_41 ?_
      refine v_icmp_ne C 110 (by decide) dX3_isDouble_42 (fun q15 => ?_) (fun q15 => ?_)
      · replace h := h.1 q15
        refine v_iconst (v := (0 : Int32)) C dX3_isDouble_110 (by decide) ?_
        exact v_zret C hr nb0 h dX3_isDouble_111
      · replace h := h.2 q15
        refine v_ldc2 C gc_X3_68 dX3_isDouble_45 ?_
        refine v_aload_n C 0 rfl rfl dX3_isDouble_48 ?_
        refine gf_X3_9 C dX3_isDouble_49 ?_
        refine v_iload_n C 2 rfl rfl dX3_isDouble_52 ?_
        obtain ⟨b7, h⟩ := h
        refine v_lald C 19 (by decide) rfl b7 dX3_isDouble_53 ?_
        refine v_aload_n C 0 rfl rfl dX3_isDouble_54 ?_
        refine gf_X3_9 C dX3_isDouble_55 ?_
        refine v_iload_n C 3 rfl rfl dX3_isDouble_58 ?_
        obtain ⟨b8, h⟩ := h
        refine v_lald C 19 (by decide) rfl b8 dX3_isDouble_59 ?_
        refine v_lsub C dX3_isDouble_60 ?_
        refine v_absL C gl_X3_70 (by decide) (Nat.le_of_ble_eq_true rfl) (by decide) (by decide) gm_abs_long dX3_isDouble_61 ?_
        refine v_lmul C dX3_isDouble_64 ?_
        refine v_aload_n C 1 rfl rfl dX3_isDouble_65 ?_
        refine gf_X3_76 C dX3_isDouble_66 ?_
        refine v_iload_n C 3 rfl rfl dX3_isDouble_69 ?_
        obtain ⟨b9, h⟩ := h
        refine v_lald C 13 (by decide) rfl b9 dX3_isDouble_70 ?_
        refine v_lcmp_gt C 110 (by decide) dX3_isDouble_71 dX3_isDouble_72 (fun q14 => ?_) (fun q14 => ?_)
        · replace h := h.1 q14
          refine v_iconst (v := (0 : Int32)) C dX3_isDouble_110 (by decide) ?_
          exact v_zret C hr nb0 h dX3_isDouble_111
        · replace h := h.2 q14
          refine v_ldc2 C gc_X3_68 dX3_isDouble_75 ?_
          refine v_aload_n C 0 rfl rfl dX3_isDouble_78 ?_
          refine gf_X3_15 C dX3_isDouble_79 ?_
          refine v_iload_n C 2 rfl rfl dX3_isDouble_82 ?_
          obtain ⟨b10, h⟩ := h
          refine v_lald C 20 (by decide) rfl b10 dX3_isDouble_83 ?_
          refine v_aload_n C 0 rfl rfl dX3_isDouble_84 ?_
          refine gf_X3_15 C dX3_isDouble_85 ?_
          refine v_iload_n C 3 rfl rfl dX3_isDouble_88 ?_
          obtain ⟨b11, h⟩ := h
          refine v_lald C 20 (by decide) rfl b11 dX3_isDouble_89 ?_
          refine v_lsub C dX3_isDouble_90 ?_
          refine v_absL C gl_X3_70 (by decide) (Nat.le_of_ble_eq_true rfl) (by decide) (by decide) gm_abs_long dX3_isDouble_91 ?_
          refine v_lmul C dX3_isDouble_94 ?_
          refine v_aload_n C 1 rfl rfl dX3_isDouble_95 ?_
          refine gf_X3_79 C dX3_isDouble_96 ?_
          refine v_iload_n C 3 rfl rfl dX3_isDouble_99 ?_
          obtain ⟨b12, h⟩ := h
          refine v_iald C 14 (by decide) rfl b12 dX3_isDouble_100 ?_
          refine v_i2l C dX3_isDouble_101 ?_
          refine v_lcmp_gt C 110 (by decide) dX3_isDouble_102 dX3_isDouble_103 (fun q13 => ?_) (fun q13 => ?_)
          · replace h := h.1 q13
            refine v_iconst (v := (0 : Int32)) C dX3_isDouble_110 (by decide) ?_
            exact v_zret C hr nb0 h dX3_isDouble_111
          · replace h := h.2 q13
            refine v_iconst (v := (1 : Int32)) C dX3_isDouble_106 (by decide) ?_
            refine v_goto C 111 (by decide) dX3_isDouble_107 ?_
            exact v_zret C hr nb1 h dX3_isDouble_111
set_option maxRecDepth 10000 in
set_option maxHeartbeats 4000000 in
theorem so_X3_isDouble {l : Launch} {E : EvT} (x2 : Int32) (x3 : Int32) (μ : MemT) (P : Int32 → MemT → Prop) (h : sp_X3_isDouble x2 x3 μ P) : MCi l E yX3_isDouble cX3_isDouble 4 (some .boolean) (rmN 1 24) [.ref (eAd E 3), .ref (eAd E 1), .int x2, .int x3] μ P := by
  refine mc_entryi (by decide +kernel) (Nat.le_of_ble_eq_true rfl) (fun p e s m below meth c C hr => ?_)
  exact so_X3_isDouble_0 C hr x2 x3 μ h
set_option maxRecDepth 10000 in
set_option maxHeartbeats 4000000 in
theorem so_X3_firstDoubled_2 {p : Program} {l : Launch} {e : Env} {s : State} {m : MethodId} {args : Array Value} {below : List Frame} {meth : Method} {c : Code} {E : EvT} {P : Int32 → MemT → Prop} (C : Cx p s m args meth c E cX3_firstDoubled 4 RX3) (hr : meth.sig.returnType = (some .int)) {K2 : Int32 → Int32 → MemT → Prop} (hK2 : ∀ (x2 : Int32) (x3 : Int32) (μ : MemT), K2 x2 x3 μ → V p l e (rmN 2 47) s m args below meth c E 4 0 0 (MQ below (va_Qi P (wdP E) (eA E s.heap.size)) args s 0 0 (eA E s.heap.size)) 2 [(0, .ref (eAd E 3)), (1, .ref (eAd E 1)), (2, .int x2), (3, .int x3)] [] μ) (x2 : Int32) (x3 : Int32) (μ : MemT) (h : t_X3_firstDoubled_2 K2 P x2 x3 μ) : V p l e (rmN 2 47) s m args below meth c E 4 0 0 (MQ below (va_Qi P (wdP E) (eA E s.heap.size)) args s 0 0 (eA E s.heap.size)) 2 [(0, .ref (eAd E 3)), (1, .ref (eAd E 1)), (2, .int x2), (3, .int x3)] [] μ := by
  unfold t_X3_firstDoubled_2 at h
  refine v_iload_n C 3 rfl rfl dX3_firstDoubled_2 ?_
  refine v_iload_n C 2 rfl rfl dX3_firstDoubled_3 ?_
  refine v_icmp_ge C 35 (by decide) dX3_firstDoubled_4 (fun q8 => ?_) (fun q8 => ?_)
  · replace h := h.1 q8
    refine v_iconst (v := (-1 : Int32)) C dX3_firstDoubled_35 (by decide) ?_
    exact v_iret C hr h dX3_firstDoubled_36
  · replace h := h.2 q8
    refine v_aload_n C 0 rfl rfl dX3_firstDoubled_7 ?_
    refine gf_X3_25 C dX3_firstDoubled_8 ?_
    refine v_iload_n C 3 rfl rfl dX3_firstDoubled_11 ?_
    obtain ⟨b1, h⟩ := h
    refine v_iald C 23 (by decide) rfl b1 dX3_firstDoubled_12 ?_
    refine v_iconst (v := (-1 : Int32)) C dX3_firstDoubled_13 (by decide) ?_
    refine v_icmp_ne C 29 (by decide) dX3_firstDoubled_14 (fun q7 => ?_) (fun q7 => ?_)
    · replace h := h.1 q7
      refine v_iinc (v := (x3 + 1)) C 3 [(3, .int (x3 + 1)), (0, .ref (eAd E 3)), (1, .ref (eAd E 1)), (2, .int x2)] rfl rfl (by decide) rfl dX3_firstDoubled_29 ?_
      refine v_goto C 2 (by decide) dX3_firstDoubled_32 ?_
      refine v_sub C [1, 2, 3, 0] rfl ?_
      exact hK2 _ _ _ h
    · replace h := h.2 q7
      refine v_aload_n C 0 rfl rfl dX3_firstDoubled_17 ?_
      refine v_aload_n C 1 rfl rfl dX3_firstDoubled_18 ?_
      refine v_iload_n C 2 rfl rfl dX3_firstDoubled_19 ?_
      refine v_iload_n C 3 rfl rfl dX3_firstDoubled_20 ?_
      obtain ⟨P2, hs, h⟩ := h
      refine v_callVi C 3 [.ref (eAd E 1), .int x2, .int x3] (by decide) rfl rfl rfl (so_X3_isDouble x2 x3 μ P2 hs) gw_X3_64 rfl rfl dd_X3_isDouble ⟨by decide, by decide⟩ rfl rfl (Nat.le_of_ble_eq_true rfl) ⟨by decide, by decide⟩ dX3_firstDoubled_21 (fun r5 μ3 q4 => ?_)
      replace h := h r5 μ3 q4
      refine v_if_eq C 29 (by decide) dX3_firstDoubled_24 (fun q6 => ?_) (fun q6 => ?_)
      · replace h := h.1 q6
        refine v_iinc (v := (x3 + 1)) C 3 [(3, .int (x3 + 1)), (0, .ref (eAd E 3)), (1, .ref (eAd E 1)), (2, .int x2)] rfl rfl (by decide) rfl dX3_firstDoubled_29 ?_
        refine v_goto C 2 (by decide) dX3_firstDoubled_32 ?_
        refine v_sub C [1, 2, 3, 0] rfl ?_
        exact hK2 _ _ _ h
      · replace h := h.2 q6
        refine v_iload_n C 3 rfl rfl dX3_firstDoubled_27 ?_
        exact v_iret C hr h dX3_firstDoubled_28
set_option maxRecDepth 10000 in
set_option maxHeartbeats 4000000 in
theorem so_X3_firstDoubled_0 {p : Program} {l : Launch} {e : Env} {s : State} {m : MethodId} {args : Array Value} {below : List Frame} {meth : Method} {c : Code} {E : EvT} {P : Int32 → MemT → Prop} (C : Cx p s m args meth c E cX3_firstDoubled 4 RX3) (hr : meth.sig.returnType = (some .int)) {K2 : Int32 → Int32 → MemT → Prop} (hK2 : ∀ (x2 : Int32) (x3 : Int32) (μ : MemT), K2 x2 x3 μ → V p l e (rmN 2 47) s m args below meth c E 4 0 0 (MQ below (va_Qi P (wdP E) (eA E s.heap.size)) args s 0 0 (eA E s.heap.size)) 2 [(0, .ref (eAd E 3)), (1, .ref (eAd E 1)), (2, .int x2), (3, .int x3)] [] μ) (x2 : Int32) (μ : MemT) (h : t_X3_firstDoubled_0 K2 P x2 μ) : V p l e (rmN 2 47) s m args below meth c E 4 0 0 (MQ below (va_Qi P (wdP E) (eA E s.heap.size)) args s 0 0 (eA E s.heap.size)) 0 [(0, .ref (eAd E 3)), (1, .ref (eAd E 1)), (2, .int x2)] [] μ := by
  unfold t_X3_firstDoubled_0 at h
  refine v_iconst (v := (0 : Int32)) C dX3_firstDoubled_0 (by decide) ?_
  refine v_istore_n C [(3, .int (0 : Int32)), (0, .ref (eAd E 3)), (1, .ref (eAd E 1)), (2, .int x2)] rfl (by decide) rfl dX3_firstDoubled_1 ?_
  refine v_sub C [1, 2, 3, 0] rfl ?_
  exact hK2 _ _ _ h
set_option maxRecDepth 10000 in
set_option maxHeartbeats 4000000 in
theorem so_X3_firstDoubled {l : Launch} {E : EvT} (x2 : Int32) (μ : MemT) (P : Int32 → MemT → Prop) (h : sp_X3_firstDoubled x2 μ P) : MCi l E yX3_firstDoubled cX3_firstDoubled 4 (some .int) (rmN 2 47) [.ref (eAd E 3), .ref (eAd E 1), .int x2] μ P := by
  refine mc_entryi (by decide +kernel) (Nat.le_of_ble_eq_true rfl) (fun p e s m below meth c C hr => ?_)
  have h0 := h (fun x2_ x3_ μ => V p l e (rmN 2 47) s m ([.ref (eAd E 3), .ref (eAd E 1), .int x2] : List Value).toArray below meth c E 4 0 0 (MQ below (va_Qi P (wdP E) (eA E s.heap.size)) ([.ref (eAd E 3), .ref (eAd E 1), .int x2] : List Value).toArray s 0 0 (eA E s.heap.size)) 2 [(0, .ref (eAd E 3)), (1, .ref (eAd E 1)), (2, .int x2_), (3, .int x3_)] [] μ) (fun x2 x3 μ ht => so_X3_firstDoubled_2 C hr (fun x2 x3 μ hk => hk) x2 x3 μ ht) 
  exact so_X3_firstDoubled_0 C hr (fun x2 x3 μ hk => hk) x2 μ h0
set_option maxRecDepth 10000 in
set_option maxHeartbeats 4000000 in
theorem so_X3_spell_35 {p : Program} {l : Launch} {e : Env} {s : State} {m : MethodId} {args : Array Value} {below : List Frame} {meth : Method} {c : Code} {E : EvT} {P : MemT → Prop} (C : Cx p s m args meth c E cX3_spell 5 RX3) (hr : meth.sig.returnType = none) (x1 : Int32) (x2 : Int32) (x4 : Int32) (y1 : Int32) (y2 : Int32) (μ : MemT) (h : t_X3_spell_35 P x1 x2 x4 y1 y2 μ) : V p l e (rmN 1 22) s m args below meth c E 5 0 0 (MQ below (va_Qv P (wdP E) (eA E s.heap.size)) args s 0 0 (eA E s.heap.size)) 35 [(0, .ref (eAd E 3)), (1, .int x1), (2, .int x2), (3, .ref (eAd E 2)), (4, .int x4)] [.int y2, .int y1, .ref (eAd E 21)] μ := by
  unfold t_X3_spell_35 at h
  obtain ⟨b1, h⟩ := h
  refine v_iast C 21 (by decide) rfl b1 dX3_spell_35 ?_
  refine v_nmM (fun μ2 e_μ2 => ?_)
  replace h := h μ2 e_μ2
  refine v_aload_n C 0 rfl rfl dX3_spell_36 ?_
  refine gf_X3_22 C dX3_spell_37 ?_
  refine v_iload_n C 1 rfl rfl dX3_spell_40 ?_
  refine v_iload C 4 rfl dX3_spell_41 ?_
  refine v_if_ge C 50 (by decide) dX3_spell_43 (fun q8 => ?_) (fun q8 => ?_)
  · replace h := h.1 q8
    refine v_aload_n C 3 rfl rfl dX3_spell_50 ?_
    refine gf_X3_63 C dX3_spell_51 ?_
    refine v_iload C 4 rfl dX3_spell_54 ?_
    refine v_sipush (v := (256 : Int32)) C dX3_spell_56 (by decide) ?_
    refine v_imul C dX3_spell_59 ?_
    refine v_iload_n C 2 rfl rfl dX3_spell_60 ?_
    refine v_iadd C dX3_spell_61 ?_
    obtain ⟨b3, h⟩ := h
    refine v_iald C 18 (by decide) rfl b3 dX3_spell_62 ?_
    obtain ⟨b4, h⟩ := h
    refine v_iast C 22 (by decide) rfl b4 dX3_spell_63 ?_
    refine v_nmM (fun μ5 e_μ5 => ?_)
    replace h := h μ5 e_μ5
    exact v_vret C hr h dX3_spell_64
  · replace h := h.2 q8
    refine v_iconst (v := (0 : Int32)) C dX3_spell_46 (by decide) ?_
    refine v_goto C 63 (by decide) dX3_spell_47 ?_
    obtain ⟨b6, h⟩ := h
    refine v_iast C 22 (by decide) rfl b6 dX3_spell_63 ?_
    refine v_nmM (fun μ7 e_μ7 => ?_)
    replace h := h μ7 e_μ7
    exact v_vret C hr h dX3_spell_64
set_option maxRecDepth 10000 in
set_option maxHeartbeats 4000000 in
theorem so_X3_spell_0 {p : Program} {l : Launch} {e : Env} {s : State} {m : MethodId} {args : Array Value} {below : List Frame} {meth : Method} {c : Code} {E : EvT} {P : MemT → Prop} (C : Cx p s m args meth c E cX3_spell 5 RX3) (hr : meth.sig.returnType = none) (x1 : Int32) (x2 : Int32) (μ : MemT) (h : t_X3_spell_0 P x1 x2 μ) : V p l e (rmN 1 22) s m args below meth c E 5 0 0 (MQ below (va_Qv P (wdP E) (eA E s.heap.size)) args s 0 0 (eA E s.heap.size)) 0 [(0, .ref (eAd E 3)), (1, .int x1), (2, .int x2), (3, .ref (eAd E 2))] [] μ := by
  unfold t_X3_spell_0 at h
  refine v_aload_n C 3 rfl rfl dX3_spell_0 ?_
  refine v_iload_n C 2 rfl rfl dX3_spell_1 ?_
  obtain ⟨P1, hs, h⟩ := h
  refine v_callVi C 2 [.int x2] (by decide) rfl rfl rfl (so_X2_kindThatTells x2 μ P1 hs) gw_X3_55 rfl rfl dd_X2_kindThatTells ⟨by decide, by decide⟩ rfl rfl (Nat.le_of_ble_eq_true rfl) ⟨by decide, by decide⟩ dX3_spell_2 (fun r4 μ2 q3 => ?_)
  replace h := h r4 μ2 q3
  refine v_istore C [(4, .int r4), (0, .ref (eAd E 3)), (1, .int x1), (2, .int x2), (3, .ref (eAd E 2))] (by decide) rfl dX3_spell_5 ?_
  refine v_aload_n C 1 rfl rfl dX3_spell_7 ?_
  refine gf_X3_18 C dX3_spell_8 ?_
  refine v_iload_n C 2 rfl rfl dX3_spell_11 ?_
  refine v_iload C 0 rfl dX3_spell_12 ?_
  refine v_if_ge C 22 (by decide) dX3_spell_14 (fun q6 => ?_) (fun q6 => ?_)
  · replace h := h.1 q6
    refine v_aload_n C 4 rfl rfl dX3_spell_22 ?_
    refine gf_X3_62 C dX3_spell_23 ?_
    refine v_iload C 0 rfl dX3_spell_26 ?_
    refine v_sipush (v := (256 : Int32)) C dX3_spell_28 (by decide) ?_
    refine v_imul C dX3_spell_31 ?_
    refine v_iload_n C 3 rfl rfl dX3_spell_32 ?_
    refine v_iadd C dX3_spell_33 ?_
    obtain ⟨b5, h⟩ := h
    refine v_iald C 17 (by decide) rfl b5 dX3_spell_34 ?_
    refine v_sub C [1, 2, 3, 4, 0] rfl ?_
    exact so_X3_spell_35 C hr _ _ _ _ _ _ h
  · replace h := h.2 q6
    refine v_ldc C gc_X3_61 dX3_spell_17 ?_
    refine v_goto C 35 (by decide) dX3_spell_19 ?_
    refine v_sub C [1, 2, 3, 4, 0] rfl ?_
    exact so_X3_spell_35 C hr _ _ _ _ _ _ h
set_option maxRecDepth 10000 in
set_option maxHeartbeats 4000000 in
theorem so_X3_spell {l : Launch} {E : EvT} (x1 : Int32) (x2 : Int32) (μ : MemT) (P : MemT → Prop) (h : sp_X3_spell x1 x2 μ P) : MCv l E yX3_spell cX3_spell 5 none (rmN 1 22) [.ref (eAd E 3), .int x1, .int x2, .ref (eAd E 2)] μ P := by
  refine mc_entryv (by decide +kernel) (Nat.le_of_ble_eq_true rfl) (fun p e s m below meth c C hr => ?_)
  exact so_X3_spell_0 C hr x1 x2 μ h
set_option maxRecDepth 10000 in
set_option maxHeartbeats 4000000 in
theorem so_X3_settle_70 {p : Program} {l : Launch} {e : Env} {s : State} {m : MethodId} {args : Array Value} {below : List Frame} {meth : Method} {c : Code} {E : EvT} {P : MemT → Prop} (C : Cx p s m args meth c E cX3_settle 4 RX3) (hr : meth.sig.returnType = none) {K2 : Int32 → MemT → Prop} (hK2 : ∀ (x3 : Int32) (μ : MemT), K2 x3 μ → V p l e (rmN 3 70) s m args below meth c E 4 0 0 (MQ below (va_Qv P (wdP E) (eA E s.heap.size)) args s 0 0 (eA E s.heap.size)) 2 [(0, .ref (eAd E 3)), (1, .ref (eAd E 1)), (2, .ref (eAd E 2)), (3, .int x3)] [] μ) (x3 : Int32) (y1 : Int32) (y2 : Int64) (μ : MemT) (h : t_X3_settle_70 K2 P x3 y1 y2 μ) : V p l e (rmN 3 70) s m args below meth c E 4 0 0 (MQ below (va_Qv P (wdP E) (eA E s.heap.size)) args s 0 0 (eA E s.heap.size)) 70 [(0, .ref (eAd E 3)), (1, .ref (eAd E 1)), (2, .ref (eAd E 2)), (3, .int x3)] [.long y2, .int y1, .ref (eAd E 20)] μ := by
  unfold t_X3_settle_70 at h
  obtain ⟨b1, h⟩ := h
  refine v_last C 20 (by decide) rfl b1 dX3_settle_70 ?_
  refine v_nmM (fun μ2 e_μ2 => ?_)
  replace h := h μ2 e_μ2
  refine v_aload_n C 0 rfl rfl dX3_settle_71 ?_
  refine v_iload_n C 3 rfl rfl dX3_settle_72 ?_
  refine v_aload_n C 1 rfl rfl dX3_settle_73 ?_
  refine gf_X3_44 C dX3_settle_74 ?_
  refine v_iload_n C 3 rfl rfl dX3_settle_77 ?_
  obtain ⟨b3, h⟩ := h
  refine v_iald C 10 (by decide) rfl b3 dX3_settle_78 ?_
  refine v_aload_n C 2 rfl rfl dX3_settle_79 ?_
  obtain ⟨P4, hs, h⟩ := h
  refine v_callVv C 3 [.int x3, .int (μ2.1 10 x3.toNatClampNeg), .ref (eAd E 2)] (by decide) rfl rfl rfl (so_X3_spell x3 (μ2.1 10 x3.toNatClampNeg) μ2 P4 hs) gw_X3_47 rfl rfl dd_X3_spell ⟨by decide, by decide⟩ rfl rfl (Nat.le_of_ble_eq_true rfl) ⟨by decide, by decide⟩ dX3_settle_80 (fun μ5 q6 => ?_)
  replace h := h μ5 q6
  refine v_aload_n C 0 rfl rfl dX3_settle_83 ?_
  refine gf_X3_25 C dX3_settle_84 ?_
  refine v_iload_n C 3 rfl rfl dX3_settle_87 ?_
  refine v_aload_n C 0 rfl rfl dX3_settle_88 ?_
  refine v_aload_n C 1 rfl rfl dX3_settle_89 ?_
  refine v_iload_n C 3 rfl rfl dX3_settle_90 ?_
  obtain ⟨P7, hs, h⟩ := h
  refine v_callVi C 3 [.ref (eAd E 1), .int x3] (by decide) rfl rfl rfl (so_X3_firstDoubled x3 μ5 P7 hs) gw_X3_51 rfl rfl dd_X3_firstDoubled ⟨by decide, by decide⟩ rfl rfl (Nat.le_of_ble_eq_true rfl) ⟨by decide, by decide⟩ dX3_settle_91 (fun r10 μ8 q9 => ?_)
  replace h := h r10 μ8 q9
  obtain ⟨b11, h⟩ := h
  refine v_iast C 23 (by decide) rfl b11 dX3_settle_94 ?_
  refine v_nmM (fun μ12 e_μ12 => ?_)
  replace h := h μ12 e_μ12
  refine v_iinc (v := (x3 + 1)) C 3 [(3, .int (x3 + 1)), (0, .ref (eAd E 3)), (1, .ref (eAd E 1)), (2, .ref (eAd E 2))] rfl rfl (by decide) rfl dX3_settle_95 ?_
  refine v_goto C 2 (by decide) dX3_settle_98 ?_
  refine v_sub C [1, 2, 3, 0] rfl ?_
  exact hK2 _ _ h
set_option maxRecDepth 10000 in
set_option maxHeartbeats 4000000 in
theorem so_X3_settle_39 {p : Program} {l : Launch} {e : Env} {s : State} {m : MethodId} {args : Array Value} {below : List Frame} {meth : Method} {c : Code} {E : EvT} {P : MemT → Prop} (C : Cx p s m args meth c E cX3_settle 4 RX3) (hr : meth.sig.returnType = none) {K2 : Int32 → MemT → Prop} (hK2 : ∀ (x3 : Int32) (μ : MemT), K2 x3 μ → V p l e (rmN 3 70) s m args below meth c E 4 0 0 (MQ below (va_Qv P (wdP E) (eA E s.heap.size)) args s 0 0 (eA E s.heap.size)) 2 [(0, .ref (eAd E 3)), (1, .ref (eAd E 1)), (2, .ref (eAd E 2)), (3, .int x3)] [] μ) (x3 : Int32) (y1 : Int32) (y2 : Int64) (μ : MemT) (h : t_X3_settle_39 K2 P x3 y1 y2 μ) : V p l e (rmN 3 70) s m args below meth c E 4 0 0 (MQ below (va_Qv P (wdP E) (eA E s.heap.size)) args s 0 0 (eA E s.heap.size)) 39 [(0, .ref (eAd E 3)), (1, .ref (eAd E 1)), (2, .ref (eAd E 2)), (3, .int x3)] [.long y2, .int y1, .ref (eAd E 19)] μ := by
  unfold t_X3_settle_39 at h
  obtain ⟨b1, h⟩ := h
  refine v_last C 19 (by decide) rfl b1 dX3_settle_39 ?_
  refine v_nmM (fun μ2 e_μ2 => ?_)
  replace h := h μ2 e_μ2
  refine v_aload_n C 0 rfl rfl dX3_settle_40 ?_
  refine gf_X3_15 C dX3_settle_41 ?_
  refine v_iload_n C 3 rfl rfl dX3_settle_44 ?_
  refine v_aload_n C 1 rfl rfl dX3_settle_45 ?_
  refine gf_X3_34 C dX3_settle_46 ?_
  refine v_iload_n C 3 rfl rfl dX3_settle_49 ?_
  obtain ⟨b3, h⟩ := h
  refine v_zald C 15 (by decide) rfl b3 dX3_settle_50 ?_
  refine v_if_eq C 64 (by decide) dX3_settle_51 (fun q6 => ?_) (fun q6 => ?_)
  · replace h := h.1 q6
    refine v_aload_n C 1 rfl rfl dX3_settle_64 ?_
    refine gf_X3_38 C dX3_settle_65 ?_
    refine v_iload_n C 3 rfl rfl dX3_settle_68 ?_
    obtain ⟨b4, h⟩ := h
    refine v_lald C 12 (by decide) rfl b4 dX3_settle_69 ?_
    exact so_X3_settle_70 C hr hK2 _ _ _ _ h
  · replace h := h.2 q6
    refine v_aload_n C 1 rfl rfl dX3_settle_54 ?_
    refine gf_X3_41 C dX3_settle_55 ?_
    refine v_iload_n C 3 rfl rfl dX3_settle_58 ?_
    obtain ⟨b5, h⟩ := h
    refine v_lald C 11 (by decide) rfl b5 dX3_settle_59 ?_
    refine v_lneg C dX3_settle_60 ?_
    refine v_goto C 70 (by decide) dX3_settle_61 ?_
    exact so_X3_settle_70 C hr hK2 _ _ _ _ h
set_option maxRecDepth 10000 in
set_option maxHeartbeats 4000000 in
theorem so_X3_settle_2 {p : Program} {l : Launch} {e : Env} {s : State} {m : MethodId} {args : Array Value} {below : List Frame} {meth : Method} {c : Code} {E : EvT} {P : MemT → Prop} (C : Cx p s m args meth c E cX3_settle 4 RX3) (hr : meth.sig.returnType = none) {K2 : Int32 → MemT → Prop} (hK2 : ∀ (x3 : Int32) (μ : MemT), K2 x3 μ → V p l e (rmN 3 70) s m args below meth c E 4 0 0 (MQ below (va_Qv P (wdP E) (eA E s.heap.size)) args s 0 0 (eA E s.heap.size)) 2 [(0, .ref (eAd E 3)), (1, .ref (eAd E 1)), (2, .ref (eAd E 2)), (3, .int x3)] [] μ) (x3 : Int32) (μ : MemT) (h : t_X3_settle_2 K2 P x3 μ) : V p l e (rmN 3 70) s m args below meth c E 4 0 0 (MQ below (va_Qv P (wdP E) (eA E s.heap.size)) args s 0 0 (eA E s.heap.size)) 2 [(0, .ref (eAd E 3)), (1, .ref (eAd E 1)), (2, .ref (eAd E 2)), (3, .int x3)] [] μ := by
  unfold t_X3_settle_2 at h
  refine v_iload_n C 3 rfl rfl dX3_settle_2 ?_
  refine v_aload_n C 1 rfl rfl dX3_settle_3 ?_
  refine gf_X3_28 C dX3_settle_4 ?_
  refine v_icmp_ge C 101 (by decide) dX3_settle_7 (fun q5 => ?_) (fun q5 => ?_)
  · replace h := h.1 q5
    exact v_vret C hr h dX3_settle_101
  · replace h := h.2 q5
    refine v_aload_n C 0 rfl rfl dX3_settle_10 ?_
    refine gf_X3_9 C dX3_settle_11 ?_
    refine v_iload_n C 3 rfl rfl dX3_settle_14 ?_
    refine v_aload_n C 1 rfl rfl dX3_settle_15 ?_
    refine gf_X3_34 C dX3_settle_16 ?_
    refine v_iload_n C 3 rfl rfl dX3_settle_19 ?_
    obtain ⟨b1, h⟩ := h
    refine v_zald C 15 (by decide) rfl b1 dX3_settle_20 ?_
    refine v_if_eq C 33 (by decide) dX3_settle_21 (fun q4 => ?_) (fun q4 => ?_)
    · replace h := h.1 q4
      refine v_aload_n C 1 rfl rfl dX3_settle_33 ?_
      refine gf_X3_41 C dX3_settle_34 ?_
      refine v_iload_n C 3 rfl rfl dX3_settle_37 ?_
      obtain ⟨b2, h⟩ := h
      refine v_lald C 11 (by decide) rfl b2 dX3_settle_38 ?_
      exact so_X3_settle_39 C hr hK2 _ _ _ _ h
    · replace h := h.2 q4
      refine v_aload_n C 1 rfl rfl dX3_settle_24 ?_
      refine gf_X3_38 C dX3_settle_25 ?_
      refine v_iload_n C 3 rfl rfl dX3_settle_28 ?_
      obtain ⟨b3, h⟩ := h
      refine v_lald C 12 (by decide) rfl b3 dX3_settle_29 ?_
      refine v_goto C 39 (by decide) dX3_settle_30 ?_
      exact so_X3_settle_39 C hr hK2 _ _ _ _ h
set_option maxRecDepth 10000 in
set_option maxHeartbeats 4000000 in
theorem so_X3_settle_0 {p : Program} {l : Launch} {e : Env} {s : State} {m : MethodId} {args : Array Value} {below : List Frame} {meth : Method} {c : Code} {E : EvT} {P : MemT → Prop} (C : Cx p s m args meth c E cX3_settle 4 RX3) (hr : meth.sig.returnType = none) {K2 : Int32 → MemT → Prop} (hK2 : ∀ (x3 : Int32) (μ : MemT), K2 x3 μ → V p l e (rmN 3 70) s m args below meth c E 4 0 0 (MQ below (va_Qv P (wdP E) (eA E s.heap.size)) args s 0 0 (eA E s.heap.size)) 2 [(0, .ref (eAd E 3)), (1, .ref (eAd E 1)), (2, .ref (eAd E 2)), (3, .int x3)] [] μ) (μ : MemT) (h : t_X3_settle_0 K2 P  μ) : V p l e (rmN 3 70) s m args below meth c E 4 0 0 (MQ below (va_Qv P (wdP E) (eA E s.heap.size)) args s 0 0 (eA E s.heap.size)) 0 [(0, .ref (eAd E 3)), (1, .ref (eAd E 1)), (2, .ref (eAd E 2))] [] μ := by
  unfold t_X3_settle_0 at h
  refine v_iconst (v := (0 : Int32)) C dX3_settle_0 (by decide) ?_
  refine v_istore_n C [(3, .int (0 : Int32)), (0, .ref (eAd E 3)), (1, .ref (eAd E 1)), (2, .ref (eAd E 2))] rfl (by decide) rfl dX3_settle_1 ?_
  refine v_sub C [1, 2, 3, 0] rfl ?_
  exact hK2 _ _ h
set_option maxRecDepth 10000 in
set_option maxHeartbeats 4000000 in
theorem so_X3_settle {l : Launch} {E : EvT} (μ : MemT) (P : MemT → Prop) (h : sp_X3_settle  μ P) : MCv l E yX3_settle cX3_settle 4 none (rmN 3 70) [.ref (eAd E 3), .ref (eAd E 1), .ref (eAd E 2)] μ P := by
  refine mc_entryv (by decide +kernel) (Nat.le_of_ble_eq_true rfl) (fun p e s m below meth c C hr => ?_)
  have h0 := h (fun x3_ μ => V p l e (rmN 3 70) s m ([.ref (eAd E 3), .ref (eAd E 1), .ref (eAd E 2)] : List Value).toArray below meth c E 4 0 0 (MQ below (va_Qv P (wdP E) (eA E s.heap.size)) ([.ref (eAd E 3), .ref (eAd E 1), .ref (eAd E 2)] : List Value).toArray s 0 0 (eA E s.heap.size)) 2 [(0, .ref (eAd E 3)), (1, .ref (eAd E 1)), (2, .ref (eAd E 2)), (3, .int x3_)] [] μ) (fun x3 μ ht => so_X3_settle_2 C hr (fun x3 μ hk => hk) x3 μ ht) 
  exact so_X3_settle_0 C hr (fun x3 μ hk => hk)  μ h0
set_option maxRecDepth 10000 in
set_option maxHeartbeats 4000000 in
theorem so_X4_rank_10 {p : Program} {l : Launch} {e : Env} {s : State} {m : MethodId} {args : Array Value} {below : List Frame} {meth : Method} {c : Code} {E : EvT} {P : Int32 → MemT → Prop} (C : Cx p s m args meth c E cX4_rank 5 RX4) (hr : meth.sig.returnType = (some .int)) (x1 : Int32) (x2 : Int32) (x3 : Int32) (y0 : Int32) (μ : MemT) (h : t_X4_rank_10 P x1 x2 x3 y0 μ) : V p l e (rmN 0 0) s m args below meth c E 5 0 0 (MQ below (va_Qi P (wdP E) (eA E s.heap.size)) args s 0 0 (eA E s.heap.size)) 10 [(0, .ref (eAd E 7)), (1, .int x1), (2, .int x2), (3, .int x3)] [.int y0] μ := by
  unfold t_X4_rank_10 at h
  refine v_istore C [(4, .int y0), (0, .ref (eAd E 7)), (1, .int x1), (2, .int x2), (3, .int x3)] (by decide) rfl dX4_rank_10 ?_
  refine v_iload C 0 rfl dX4_rank_12 ?_
  refine v_sipush (v := (200 : Int32)) C dX4_rank_14 (by decide) ?_
  refine v_imul C dX4_rank_17 ?_
  refine v_iload_n C 3 rfl rfl dX4_rank_18 ?_
  refine v_iadd C dX4_rank_19 ?_
  refine v_sipush (v := (200 : Int32)) C dX4_rank_20 (by decide) ?_
  refine v_imul C dX4_rank_23 ?_
  refine v_iload_n C 4 rfl rfl dX4_rank_24 ?_
  refine v_iadd C dX4_rank_25 ?_
  exact v_iret C hr h dX4_rank_26
set_option maxRecDepth 10000 in
set_option maxHeartbeats 4000000 in
theorem so_X4_rank_0 {p : Program} {l : Launch} {e : Env} {s : State} {m : MethodId} {args : Array Value} {below : List Frame} {meth : Method} {c : Code} {E : EvT} {P : Int32 → MemT → Prop} (C : Cx p s m args meth c E cX4_rank 5 RX4) (hr : meth.sig.returnType = (some .int)) (x1 : Int32) (x2 : Int32) (x3 : Int32) (μ : MemT) (h : t_X4_rank_0 P x1 x2 x3 μ) : V p l e (rmN 0 0) s m args below meth c E 5 0 0 (MQ below (va_Qi P (wdP E) (eA E s.heap.size)) args s 0 0 (eA E s.heap.size)) 0 [(0, .ref (eAd E 7)), (1, .int x1), (2, .int x2), (3, .int x3)] [] μ := by
  unfold t_X4_rank_0 at h
  refine v_iload_n C 1 rfl rfl dX4_rank_0 ?_
  refine v_if_ge C 9 (by decide) dX4_rank_1 (fun q1 => ?_) (fun q1 => ?_)
  · replace h := h.1 q1
    refine v_iload_n C 1 rfl rfl dX4_rank_9 ?_
    exact so_X4_rank_10 C hr _ _ _ _ _ h
  · replace h := h.2 q1
    refine v_bipush (v := (101 : Int32)) C dX4_rank_4 (by decide) ?_
    refine v_goto C 10 (by decide) dX4_rank_6 ?_
    exact so_X4_rank_10 C hr _ _ _ _ _ h
set_option maxRecDepth 10000 in
set_option maxHeartbeats 4000000 in
theorem so_X4_rank {l : Launch} {E : EvT} (x1 : Int32) (x2 : Int32) (x3 : Int32) (μ : MemT) (P : Int32 → MemT → Prop) (h : sp_X4_rank x1 x2 x3 μ P) : MCi l E yX4_rank cX4_rank 5 (some .int) (rmN 0 0) [.ref (eAd E 7), .int x1, .int x2, .int x3] μ P := by
  refine mc_entryi (by decide +kernel) (Nat.le_of_ble_eq_true rfl) (fun p e s m below meth c C hr => ?_)
  exact so_X4_rank_0 C hr x1 x2 x3 μ h
set_option maxRecDepth 10000 in
set_option maxHeartbeats 4000000 in
theorem so_X4_bringInOrder_53 {p : Program} {l : Launch} {e : Env} {s : State} {m : MethodId} {args : Array Value} {below : List Frame} {meth : Method} {c : Code} {E : EvT} {P : MemT → Prop} (C : Cx p s m args meth c E cX4_bringInOrder 8 RX4) (hr : meth.sig.returnType = none) {K3 : Int32 → MemT → Prop} (hK3 : ∀ (x5 : Int32) (μ : MemT), K3 x5 μ → V p l e (rmN 1 24) s m args below meth c E 8 0 0 (MQ below (va_Qv P (wdP E) (eA E s.heap.size)) args s 0 0 (eA E s.heap.size)) 3 [(0, .ref (eAd E 7)), (1, .ref (eAd E 1)), (2, .ref (eAd E 4)), (3, .ref (eAd E 5)), (4, .ref (eAd E 6)), (5, .int x5)] [] μ) {K53 : Int32 → Int32 → Int32 → MemT → Prop} (hK53 : ∀ (x5 : Int32) (x6 : Int32) (x7 : Int32) (μ : MemT), K53 x5 x6 x7 μ → V p l e (rmN 1 24) s m args below meth c E 8 0 0 (MQ below (va_Qv P (wdP E) (eA E s.heap.size)) args s 0 0 (eA E s.heap.size)) 53 [(0, .ref (eAd E 7)), (1, .ref (eAd E 1)), (2, .ref (eAd E 4)), (3, .ref (eAd E 5)), (4, .ref (eAd E 6)), (5, .int x5), (6, .int x6), (7, .int x7)] [] μ) (x5 : Int32) (x6 : Int32) (x7 : Int32) (μ : MemT) (h : t_X4_bringInOrder_53 K3 K53 P x5 x6 x7 μ) : V p l e (rmN 1 24) s m args below meth c E 8 0 0 (MQ below (va_Qv P (wdP E) (eA E s.heap.size)) args s 0 0 (eA E s.heap.size)) 53 [(0, .ref (eAd E 7)), (1, .ref (eAd E 1)), (2, .ref (eAd E 4)), (3, .ref (eAd E 5)), (4, .ref (eAd E 6)), (5, .int x5), (6, .int x6), (7, .int x7)] [] μ := by
  unfold t_X4_bringInOrder_53 at h
  refine v_iload C 7 rfl dX4_bringInOrder_53 ?_
  refine v_if_le C 104 (by decide) dX4_bringInOrder_55 (fun q12 => ?_) (fun q12 => ?_)
  · replace h := h.1 q12
    refine v_aload_n C 0 rfl rfl dX4_bringInOrder_104 ?_
    refine gf_X4_22 C dX4_bringInOrder_105 ?_
    refine v_iload C 7 rfl dX4_bringInOrder_108 ?_
    refine v_iload C 6 rfl dX4_bringInOrder_110 ?_
    obtain ⟨b1, h⟩ := h
    refine v_iast C 41 (by decide) rfl b1 dX4_bringInOrder_112 ?_
    refine v_nmM (fun μ2 e_μ2 => ?_)
    replace h := h μ2 e_μ2
    refine v_iinc (v := (x5 + 1)) C 5 [(5, .int (x5 + 1)), (0, .ref (eAd E 7)), (1, .ref (eAd E 1)), (2, .ref (eAd E 4)), (3, .ref (eAd E 5)), (4, .ref (eAd E 6)), (6, .int x6), (7, .int x7)] rfl rfl (by decide) rfl dX4_bringInOrder_113 ?_
    refine v_goto C 3 (by decide) dX4_bringInOrder_116 ?_
    refine v_sub C [1, 2, 3, 4, 5, 0] rfl ?_
    exact hK3 _ _ h
  · replace h := h.2 q12
    refine v_aload_n C 0 rfl rfl dX4_bringInOrder_58 ?_
    refine gf_X4_25 C dX4_bringInOrder_59 ?_
    refine v_aload_n C 0 rfl rfl dX4_bringInOrder_62 ?_
    refine gf_X4_22 C dX4_bringInOrder_63 ?_
    refine v_iload C 7 rfl dX4_bringInOrder_66 ?_
    refine v_iconst (v := (1 : Int32)) C dX4_bringInOrder_68 (by decide) ?_
    refine v_isub C dX4_bringInOrder_69 ?_
    obtain ⟨b3, h⟩ := h
    refine v_iald C 41 (by decide) rfl b3 dX4_bringInOrder_70 ?_
    obtain ⟨b4, h⟩ := h
    refine v_iald C 42 (by decide) rfl b4 dX4_bringInOrder_71 ?_
    refine v_aload_n C 0 rfl rfl dX4_bringInOrder_72 ?_
    refine gf_X4_25 C dX4_bringInOrder_73 ?_
    refine v_iload C 6 rfl dX4_bringInOrder_76 ?_
    obtain ⟨b5, h⟩ := h
    refine v_iald C 42 (by decide) rfl b5 dX4_bringInOrder_78 ?_
    refine v_icmp_le C 104 (by decide) dX4_bringInOrder_79 (fun q11 => ?_) (fun q11 => ?_)
    · replace h := h.1 q11
      refine v_aload_n C 0 rfl rfl dX4_bringInOrder_104 ?_
      refine gf_X4_22 C dX4_bringInOrder_105 ?_
      refine v_iload C 7 rfl dX4_bringInOrder_108 ?_
      refine v_iload C 6 rfl dX4_bringInOrder_110 ?_
      obtain ⟨b6, h⟩ := h
      refine v_iast C 41 (by decide) rfl b6 dX4_bringInOrder_112 ?_
      refine v_nmM (fun μ7 e_μ7 => ?_)
      replace h := h μ7 e_μ7
      refine v_iinc (v := (x5 + 1)) C 5 [(5, .int (x5 + 1)), (0, .ref (eAd E 7)), (1, .ref (eAd E 1)), (2, .ref (eAd E 4)), (3, .ref (eAd E 5)), (4, .ref (eAd E 6)), (6, .int x6), (7, .int x7)] rfl rfl (by decide) rfl dX4_bringInOrder_113 ?_
      refine v_goto C 3 (by decide) dX4_bringInOrder_116 ?_
      refine v_sub C [1, 2, 3, 4, 5, 0] rfl ?_
      exact hK3 _ _ h
    · replace h := h.2 q11
      refine v_aload_n C 0 rfl rfl dX4_bringInOrder_82 ?_
      refine gf_X4_22 C dX4_bringInOrder_83 ?_
      refine v_iload C 7 rfl dX4_bringInOrder_86 ?_
      refine v_aload_n C 0 rfl rfl dX4_bringInOrder_88 ?_
      refine gf_X4_22 C dX4_bringInOrder_89 ?_
      refine v_iload C 7 rfl dX4_bringInOrder_92 ?_
      refine v_iconst (v := (1 : Int32)) C dX4_bringInOrder_94 (by decide) ?_
      refine v_isub C dX4_bringInOrder_95 ?_
      obtain ⟨b8, h⟩ := h
      refine v_iald C 41 (by decide) rfl b8 dX4_bringInOrder_96 ?_
      obtain ⟨b9, h⟩ := h
      refine v_iast C 41 (by decide) rfl b9 dX4_bringInOrder_97 ?_
      refine v_nmM (fun μ10 e_μ10 => ?_)
      replace h := h μ10 e_μ10
      refine v_iinc (v := (x7 + (-1))) C 7 [(7, .int (x7 + (-1))), (0, .ref (eAd E 7)), (1, .ref (eAd E 1)), (2, .ref (eAd E 4)), (3, .ref (eAd E 5)), (4, .ref (eAd E 6)), (5, .int x5), (6, .int x6)] rfl (by rw [iM1]) (by decide) rfl dX4_bringInOrder_98 ?_
      refine v_goto C 53 (by decide) dX4_bringInOrder_101 ?_
      refine v_sub C [1, 2, 3, 4, 5, 6, 7, 0] rfl ?_
      exact hK53 _ _ _ _ h
set_option maxRecDepth 10000 in
set_option maxHeartbeats 4000000 in
theorem so_X4_bringInOrder_3 {p : Program} {l : Launch} {e : Env} {s : State} {m : MethodId} {args : Array Value} {below : List Frame} {meth : Method} {c : Code} {E : EvT} {P : MemT → Prop} (C : Cx p s m args meth c E cX4_bringInOrder 8 RX4) (hr : meth.sig.returnType = none) {K3 : Int32 → MemT → Prop} (hK3 : ∀ (x5 : Int32) (μ : MemT), K3 x5 μ → V p l e (rmN 1 24) s m args below meth c E 8 0 0 (MQ below (va_Qv P (wdP E) (eA E s.heap.size)) args s 0 0 (eA E s.heap.size)) 3 [(0, .ref (eAd E 7)), (1, .ref (eAd E 1)), (2, .ref (eAd E 4)), (3, .ref (eAd E 5)), (4, .ref (eAd E 6)), (5, .int x5)] [] μ) {K53 : Int32 → Int32 → Int32 → MemT → Prop} (hK53 : ∀ (x5 : Int32) (x6 : Int32) (x7 : Int32) (μ : MemT), K53 x5 x6 x7 μ → V p l e (rmN 1 24) s m args below meth c E 8 0 0 (MQ below (va_Qv P (wdP E) (eA E s.heap.size)) args s 0 0 (eA E s.heap.size)) 53 [(0, .ref (eAd E 7)), (1, .ref (eAd E 1)), (2, .ref (eAd E 4)), (3, .ref (eAd E 5)), (4, .ref (eAd E 6)), (5, .int x5), (6, .int x6), (7, .int x7)] [] μ) (x5 : Int32) (μ : MemT) (h : t_X4_bringInOrder_3 K3 K53 P x5 μ) : V p l e (rmN 1 24) s m args below meth c E 8 0 0 (MQ below (va_Qv P (wdP E) (eA E s.heap.size)) args s 0 0 (eA E s.heap.size)) 3 [(0, .ref (eAd E 7)), (1, .ref (eAd E 1)), (2, .ref (eAd E 4)), (3, .ref (eAd E 5)), (4, .ref (eAd E 6)), (5, .int x5)] [] μ := by
  unfold t_X4_bringInOrder_3 at h
  refine v_iload C 5 rfl dX4_bringInOrder_3 ?_
  refine v_aload_n C 2 rfl rfl dX4_bringInOrder_5 ?_
  refine gf_X4_32 C dX4_bringInOrder_6 ?_
  refine v_icmp_ge C 119 (by decide) dX4_bringInOrder_9 (fun q13 => ?_) (fun q13 => ?_)
  · replace h := h.1 q13
    exact v_vret C hr h dX4_bringInOrder_119
  · replace h := h.2 q13
    refine v_aload_n C 2 rfl rfl dX4_bringInOrder_12 ?_
    refine gf_X4_53 C dX4_bringInOrder_13 ?_
    refine v_iload C 5 rfl dX4_bringInOrder_16 ?_
    obtain ⟨b1, h⟩ := h
    refine v_iald C 24 (by decide) rfl b1 dX4_bringInOrder_18 ?_
    refine v_istore C [(6, .int (μ.1 24 x5.toNatClampNeg)), (0, .ref (eAd E 7)), (1, .ref (eAd E 1)), (2, .ref (eAd E 4)), (3, .ref (eAd E 5)), (4, .ref (eAd E 6)), (5, .int x5)] (by decide) rfl dX4_bringInOrder_19 ?_
    refine v_aload_n C 1 rfl rfl dX4_bringInOrder_21 ?_
    refine gf_X4_25 C dX4_bringInOrder_22 ?_
    refine v_iload C 0 rfl dX4_bringInOrder_25 ?_
    refine v_aload_n C 1 rfl rfl dX4_bringInOrder_27 ?_
    refine v_aload_n C 2 rfl rfl dX4_bringInOrder_28 ?_
    refine gf_X4_56 C dX4_bringInOrder_29 ?_
    refine v_iload C 0 rfl dX4_bringInOrder_32 ?_
    obtain ⟨b2, h⟩ := h
    refine v_iald C 16 (by decide) rfl b2 dX4_bringInOrder_34 ?_
    refine v_aload C 5 rfl dX4_bringInOrder_35 ?_
    refine v_aload_n C 4 rfl rfl dX4_bringInOrder_37 ?_
    refine v_iload C 0 rfl dX4_bringInOrder_38 ?_
    obtain ⟨P3, hs, h⟩ := h
    refine v_callVi C 6 [.ref (eAd E 5), .int (μ.1 24 x5.toNatClampNeg)] (by decide) rfl rfl rfl (so_X0_blockOfSign (μ.1 24 x5.toNatClampNeg) μ P3 hs) gw_X4_61 rfl rfl dd_X0_blockOfSign ⟨by decide, by decide⟩ rfl rfl (Nat.le_of_ble_eq_true rfl) ⟨by decide, by decide⟩ dX4_bringInOrder_40 (fun r6 μ4 q5 => ?_)
    replace h := h r6 μ4 q5
    refine v_iload C 6 rfl dX4_bringInOrder_43 ?_
    obtain ⟨P7, hs, h⟩ := h
    refine v_callVi C 7 [.int (μ.1 16 (μ.1 24 x5.toNatClampNeg).toNatClampNeg), .int r6, .int x5] (by decide) rfl rfl rfl (so_X4_rank (μ.1 16 (μ.1 24 x5.toNatClampNeg).toNatClampNeg) r6 x5 μ4 P7 hs) gw_X4_67 rfl rfl dd_X4_rank ⟨by decide, by decide⟩ rfl rfl (Nat.le_of_ble_eq_true rfl) ⟨by decide, by decide⟩ dX4_bringInOrder_45 (fun r10 μ8 q9 => ?_)
    replace h := h r10 μ8 q9
    obtain ⟨b11, h⟩ := h
    refine v_iast C 42 (by decide) rfl b11 dX4_bringInOrder_48 ?_
    refine v_nmM (fun μ12 e_μ12 => ?_)
    replace h := h μ12 e_μ12
    refine v_iload C 6 rfl dX4_bringInOrder_49 ?_
    refine v_istore C [(7, .int x5), (6, .int (μ.1 24 x5.toNatClampNeg)), (0, .ref (eAd E 7)), (1, .ref (eAd E 1)), (2, .ref (eAd E 4)), (3, .ref (eAd E 5)), (4, .ref (eAd E 6)), (5, .int x5)] (by decide) rfl dX4_bringInOrder_51 ?_
    refine v_sub C [2, 3, 4, 5, 6, 7, 1, 0] rfl ?_
    exact hK53 _ _ _ _ h
set_option maxRecDepth 10000 in
set_option maxHeartbeats 4000000 in
theorem so_X4_bringInOrder_0 {p : Program} {l : Launch} {e : Env} {s : State} {m : MethodId} {args : Array Value} {below : List Frame} {meth : Method} {c : Code} {E : EvT} {P : MemT → Prop} (C : Cx p s m args meth c E cX4_bringInOrder 8 RX4) (hr : meth.sig.returnType = none) {K3 : Int32 → MemT → Prop} (hK3 : ∀ (x5 : Int32) (μ : MemT), K3 x5 μ → V p l e (rmN 1 24) s m args below meth c E 8 0 0 (MQ below (va_Qv P (wdP E) (eA E s.heap.size)) args s 0 0 (eA E s.heap.size)) 3 [(0, .ref (eAd E 7)), (1, .ref (eAd E 1)), (2, .ref (eAd E 4)), (3, .ref (eAd E 5)), (4, .ref (eAd E 6)), (5, .int x5)] [] μ) {K53 : Int32 → Int32 → Int32 → MemT → Prop} (hK53 : ∀ (x5 : Int32) (x6 : Int32) (x7 : Int32) (μ : MemT), K53 x5 x6 x7 μ → V p l e (rmN 1 24) s m args below meth c E 8 0 0 (MQ below (va_Qv P (wdP E) (eA E s.heap.size)) args s 0 0 (eA E s.heap.size)) 53 [(0, .ref (eAd E 7)), (1, .ref (eAd E 1)), (2, .ref (eAd E 4)), (3, .ref (eAd E 5)), (4, .ref (eAd E 6)), (5, .int x5), (6, .int x6), (7, .int x7)] [] μ) (μ : MemT) (h : t_X4_bringInOrder_0 K3 K53 P  μ) : V p l e (rmN 1 24) s m args below meth c E 8 0 0 (MQ below (va_Qv P (wdP E) (eA E s.heap.size)) args s 0 0 (eA E s.heap.size)) 0 [(0, .ref (eAd E 7)), (1, .ref (eAd E 1)), (2, .ref (eAd E 4)), (3, .ref (eAd E 5)), (4, .ref (eAd E 6))] [] μ := by
  unfold t_X4_bringInOrder_0 at h
  refine v_iconst (v := (0 : Int32)) C dX4_bringInOrder_0 (by decide) ?_
  refine v_istore C [(5, .int (0 : Int32)), (0, .ref (eAd E 7)), (1, .ref (eAd E 1)), (2, .ref (eAd E 4)), (3, .ref (eAd E 5)), (4, .ref (eAd E 6))] (by decide) rfl dX4_bringInOrder_1 ?_
  refine v_sub C [1, 2, 3, 4, 5, 0] rfl ?_
  exact hK3 _ _ h
set_option maxRecDepth 10000 in
set_option maxHeartbeats 4000000 in
theorem so_X4_bringInOrder {l : Launch} {E : EvT} (μ : MemT) (P : MemT → Prop) (h : sp_X4_bringInOrder  μ P) : MCv l E yX4_bringInOrder cX4_bringInOrder 8 none (rmN 1 24) [.ref (eAd E 7), .ref (eAd E 1), .ref (eAd E 4), .ref (eAd E 5), .ref (eAd E 6)] μ P := by
  refine mc_entryv (by decide +kernel) (Nat.le_of_ble_eq_true rfl) (fun p e s m below meth c C hr => ?_)
  have h0 := h (fun x5_ μ => V p l e (rmN 1 24) s m ([.ref (eAd E 7), .ref (eAd E 1), .ref (eAd E 4), .ref (eAd E 5), .ref (eAd E 6)] : List Value).toArray below meth c E 8 0 0 (MQ below (va_Qv P (wdP E) (eA E s.heap.size)) ([.ref (eAd E 7), .ref (eAd E 1), .ref (eAd E 4), .ref (eAd E 5), .ref (eAd E 6)] : List Value).toArray s 0 0 (eA E s.heap.size)) 3 [(0, .ref (eAd E 7)), (1, .ref (eAd E 1)), (2, .ref (eAd E 4)), (3, .ref (eAd E 5)), (4, .ref (eAd E 6)), (5, .int x5_)] [] μ) (fun x5_ x6_ x7_ μ => V p l e (rmN 1 24) s m ([.ref (eAd E 7), .ref (eAd E 1), .ref (eAd E 4), .ref (eAd E 5), .ref (eAd E 6)] : List Value).toArray below meth c E 8 0 0 (MQ below (va_Qv P (wdP E) (eA E s.heap.size)) ([.ref (eAd E 7), .ref (eAd E 1), .ref (eAd E 4), .ref (eAd E 5), .ref (eAd E 6)] : List Value).toArray s 0 0 (eA E s.heap.size)) 53 [(0, .ref (eAd E 7)), (1, .ref (eAd E 1)), (2, .ref (eAd E 4)), (3, .ref (eAd E 5)), (4, .ref (eAd E 6)), (5, .int x5_), (6, .int x6_), (7, .int x7_)] [] μ) (fun x5 μ ht => so_X4_bringInOrder_3 C hr (fun x5 μ hk => hk) (fun x5 x6 x7 μ hk => hk) x5 μ ht) (fun x5 x6 x7 μ ht => so_X4_bringInOrder_53 C hr (fun x5 μ hk => hk) (fun x5 x6 x7 μ hk => hk) x5 x6 x7 μ ht) 
  exact so_X4_bringInOrder_0 C hr (fun x5 μ hk => hk) (fun x5 x6 x7 μ hk => hk)  μ h0
set_option maxRecDepth 10000 in
set_option maxHeartbeats 4000000 in
theorem so_X4_put_0 {p : Program} {l : Launch} {e : Env} {s : State} {m : MethodId} {args : Array Value} {below : List Frame} {meth : Method} {c : Code} {E : EvT} {P : MemT → Prop} (C : Cx p s m args meth c E cX4_put 3 RX4) (hr : meth.sig.returnType = none) (x1 : Int32) (x2 : Int32) (μ : MemT) (h : t_X4_put_0 P x1 x2 μ) : V p l e (rmN 0 0) s m args below meth c E 3 0 0 (MQ below (va_Qv P (wdP E) (eA E s.heap.size)) args s 0 0 (eA E s.heap.size)) 0 [(0, .ref (eAd E 7)), (1, .int x1), (2, .int x2)] [] μ := by
  unfold t_X4_put_0 at h
  refine v_aload_n C 0 rfl rfl dX4_put_0 ?_
  refine gf_X4_9 C dX4_put_1 ?_
  refine v_sipush (v := (600 : Int32)) C dX4_put_4 (by decide) ?_
  refine v_icmp_ge C 40 (by decide) dX4_put_7 (fun q6 => ?_) (fun q6 => ?_)
  · replace h := h.1 q6
    exact v_vret C hr h dX4_put_40
  · replace h := h.2 q6
    refine v_aload_n C 0 rfl rfl dX4_put_10 ?_
    refine gf_X4_15 C dX4_put_11 ?_
    refine v_aload_n C 0 rfl rfl dX4_put_14 ?_
    refine gf_X4_9 C dX4_put_15 ?_
    refine v_iload_n C 1 rfl rfl dX4_put_18 ?_
    obtain ⟨b1, h⟩ := h
    refine v_iast C 39 (by decide) rfl b1 dX4_put_19 ?_
    refine v_nmM (fun μ2 e_μ2 => ?_)
    replace h := h μ2 e_μ2
    refine v_aload_n C 0 rfl rfl dX4_put_20 ?_
    refine gf_X4_19 C dX4_put_21 ?_
    refine v_aload_n C 0 rfl rfl dX4_put_24 ?_
    refine gf_X4_9 C dX4_put_25 ?_
    refine v_iload_n C 2 rfl rfl dX4_put_28 ?_
    obtain ⟨b3, h⟩ := h
    refine v_iast C 40 (by decide) rfl b3 dX4_put_29 ?_
    refine v_nmM (fun μ4 e_μ4 => ?_)
    replace h := h μ4 e_μ4
    refine v_aload_n C 0 rfl rfl dX4_put_30 ?_
    refine v_dup C rfl dX4_put_31 ?_
    refine gf_X4_9 C dX4_put_32 ?_
    refine v_iconst (v := (1 : Int32)) C dX4_put_35 (by decide) ?_
    refine v_iadd C dX4_put_36 ?_
    refine pf_X4_9 C dX4_put_37 ?_
    refine v_nmM (fun μ5 e_μ5 => ?_)
    replace h := h μ5 e_μ5
    exact v_vret C hr h dX4_put_40
set_option maxRecDepth 10000 in
set_option maxHeartbeats 4000000 in
theorem so_X4_put {l : Launch} {E : EvT} (x1 : Int32) (x2 : Int32) (μ : MemT) (P : MemT → Prop) (h : sp_X4_put x1 x2 μ P) : MCv l E yX4_put cX4_put 3 none (rmN 0 0) [.ref (eAd E 7), .int x1, .int x2] μ P := by
  refine mc_entryv (by decide +kernel) (Nat.le_of_ble_eq_true rfl) (fun p e s m below meth c C hr => ?_)
  exact so_X4_put_0 C hr x1 x2 μ h
set_option maxRecDepth 10000 in
set_option maxHeartbeats 4000000 in
theorem so_X4_joinOrPart_58 {p : Program} {l : Launch} {e : Env} {s : State} {m : MethodId} {args : Array Value} {below : List Frame} {meth : Method} {c : Code} {E : EvT} {P : MemT → Prop} (C : Cx p s m args meth c E cX4_joinOrPart 3 RX4) (hr : meth.sig.returnType = none) (x1 : Int32) (x2 : Int32) (μ : MemT) (h : t_X4_joinOrPart_58 P x1 x2 μ) : V p l e (rmN 1 22) s m args below meth c E 3 0 0 (MQ below (va_Qv P (wdP E) (eA E s.heap.size)) args s 0 0 (eA E s.heap.size)) 58 [(0, .ref (eAd E 7)), (1, .int x1), (2, .int x2)] [] μ := by
  unfold t_X4_joinOrPart_58 at h
  refine v_aload_n C 0 rfl rfl dX4_joinOrPart_58 ?_
  refine v_bipush (v := (32 : Int32)) C dX4_joinOrPart_59 (by decide) ?_
  refine v_iconst (v := (-1 : Int32)) C dX4_joinOrPart_61 (by decide) ?_
  obtain ⟨P1, hs, h⟩ := h
  refine v_callVv C 7 [.int (32 : Int32), .int (-1 : Int32)] (by decide) rfl rfl rfl (so_X4_put (32 : Int32) (-1 : Int32) μ P1 hs) gw_X4_46 rfl rfl dd_X4_put ⟨by decide, by decide⟩ rfl rfl (Nat.le_of_ble_eq_true rfl) ⟨by decide, by decide⟩ dX4_joinOrPart_62 (fun μ2 q3 => ?_)
  replace h := h μ2 q3
  exact v_vret C hr h dX4_joinOrPart_65
set_option maxRecDepth 10000 in
set_option maxHeartbeats 4000000 in
theorem so_X4_joinOrPart_17 {p : Program} {l : Launch} {e : Env} {s : State} {m : MethodId} {args : Array Value} {below : List Frame} {meth : Method} {c : Code} {E : EvT} {P : MemT → Prop} (C : Cx p s m args meth c E cX4_joinOrPart 3 RX4) (hr : meth.sig.returnType = none) (x1 : Int32) (y0 : Int32) (μ : MemT) (h : t_X4_joinOrPart_17 P x1 y0 μ) : V p l e (rmN 1 22) s m args below meth c E 3 0 0 (MQ below (va_Qv P (wdP E) (eA E s.heap.size)) args s 0 0 (eA E s.heap.size)) 17 [(0, .ref (eAd E 7)), (1, .int x1)] [.int y0] μ := by
  unfold t_X4_joinOrPart_17 at h
  refine v_istore_n C [(2, .int y0), (0, .ref (eAd E 7)), (1, .int x1)] rfl (by decide) rfl dX4_joinOrPart_17 ?_
  refine v_iload_n C 0 rfl rfl dX4_joinOrPart_18 ?_
  refine v_if_eq C 58 (by decide) dX4_joinOrPart_19 (fun q5 => ?_) (fun q5 => ?_)
  · replace h := h.1 q5
    refine v_sub C [1, 2, 0] rfl ?_
    exact so_X4_joinOrPart_58 C hr _ _ _ h
  · replace h := h.2 q5
    refine v_aload_n C 1 rfl rfl dX4_joinOrPart_22 ?_
    refine gf_X4_9 C dX4_joinOrPart_23 ?_
    refine v_if_le C 58 (by decide) dX4_joinOrPart_26 (fun q4 => ?_) (fun q4 => ?_)
    · replace h := h.1 q4
      refine v_sub C [1, 2, 0] rfl ?_
      exact so_X4_joinOrPart_58 C hr _ _ _ h
    · replace h := h.2 q4
      refine v_aload_n C 1 rfl rfl dX4_joinOrPart_29 ?_
      refine gf_X4_15 C dX4_joinOrPart_30 ?_
      refine v_aload_n C 1 rfl rfl dX4_joinOrPart_33 ?_
      refine gf_X4_9 C dX4_joinOrPart_34 ?_
      refine v_iconst (v := (1 : Int32)) C dX4_joinOrPart_37 (by decide) ?_
      refine v_isub C dX4_joinOrPart_38 ?_
      obtain ⟨b1, h⟩ := h
      refine v_iald C 39 (by decide) rfl b1 dX4_joinOrPart_39 ?_
      refine v_bipush (v := (45 : Int32)) C dX4_joinOrPart_40 (by decide) ?_
      refine v_icmp_ne C 58 (by decide) dX4_joinOrPart_42 (fun q3 => ?_) (fun q3 => ?_)
      · replace h := h.1 q3
        refine v_sub C [1, 2, 0] rfl ?_
        exact so_X4_joinOrPart_58 C hr _ _ _ h
      · replace h := h.2 q3
        refine v_aload_n C 1 rfl rfl dX4_joinOrPart_45 ?_
        refine v_dup C rfl dX4_joinOrPart_46 ?_
        refine gf_X4_9 C dX4_joinOrPart_47 ?_
        refine v_iconst (v := (1 : Int32)) C dX4_joinOrPart_50 (by decide) ?_
        refine v_isub C dX4_joinOrPart_51 ?_
        refine pf_X4_9 C dX4_joinOrPart_52 ?_
        refine v_nmM (fun μ2 e_μ2 => ?_)
        replace h := h μ2 e_μ2
        refine v_goto C 65 (by decide) dX4_joinOrPart_55 ?_
        exact v_vret C hr h dX4_joinOrPart_65
set_option maxRecDepth 10000 in
set_option maxHeartbeats 4000000 in
theorem so_X4_joinOrPart_16 {p : Program} {l : Launch} {e : Env} {s : State} {m : MethodId} {args : Array Value} {below : List Frame} {meth : Method} {c : Code} {E : EvT} {P : MemT → Prop} (C : Cx p s m args meth c E cX4_joinOrPart 3 RX4) (hr : meth.sig.returnType = none) (x1 : Int32) (μ : MemT) (h : t_X4_joinOrPart_16 P x1 μ) : V p l e (rmN 1 22) s m args below meth c E 3 0 0 (MQ below (va_Qv P (wdP E) (eA E s.heap.size)) args s 0 0 (eA E s.heap.size)) 16 [(0, .ref (eAd E 7)), (1, .int x1)] [] μ := by
  unfold t_X4_joinOrPart_16 at h
  refine v_iconst (v := (0 : Int32)) C dX4_joinOrPart_16 (by decide) ?_
  exact so_X4_joinOrPart_17 C hr _ _ _ h
set_option maxRecDepth 10000 in
set_option maxHeartbeats 4000000 in
theorem so_X4_joinOrPart_0 {p : Program} {l : Launch} {e : Env} {s : State} {m : MethodId} {args : Array Value} {below : List Frame} {meth : Method} {c : Code} {E : EvT} {P : MemT → Prop} (C : Cx p s m args meth c E cX4_joinOrPart 3 RX4) (hr : meth.sig.returnType = none) (x1 : Int32) (μ : MemT) (h : t_X4_joinOrPart_0 P x1 μ) : V p l e (rmN 1 22) s m args below meth c E 3 0 0 (MQ below (va_Qv P (wdP E) (eA E s.heap.size)) args s 0 0 (eA E s.heap.size)) 0 [(0, .ref (eAd E 7)), (1, .int x1)] [] μ := by
  unfold t_X4_joinOrPart_0 at h
  refine v_iload_n C 1 rfl rfl dX4_joinOrPart_0 ?_
  refine v_bipush (v := (97 : Int32)) C dX4_joinOrPart_1 (by decide) ?_
  refine v_icmp_lt C 16 (by decide) dX4_joinOrPart_3 (fun q2 => ?_) (fun q2 => ?_)
  · replace h := h.1 q2
    exact so_X4_joinOrPart_16 C hr _ _ h
  · replace h := h.2 q2
    refine v_iload_n C 1 rfl rfl dX4_joinOrPart_6 ?_
    refine v_bipush (v := (122 : Int32)) C dX4_joinOrPart_7 (by decide) ?_
    refine v_icmp_gt C 16 (by decide) dX4_joinOrPart_9 (fun q1 => ?_) (fun q1 => ?_)
    · replace h := h.1 q1
      exact so_X4_joinOrPart_16 C hr _ _ h
    · replace h := h.2 q1
      refine v_iconst (v := (1 : Int32)) C dX4_joinOrPart_12 (by decide) ?_
      refine v_goto C 17 (by decide) dX4_joinOrPart_13 ?_
      exact so_X4_joinOrPart_17 C hr _ _ _ h
set_option maxRecDepth 10000 in
set_option maxHeartbeats 4000000 in
theorem so_X4_joinOrPart {l : Launch} {E : EvT} (x1 : Int32) (μ : MemT) (P : MemT → Prop) (h : sp_X4_joinOrPart x1 μ P) : MCv l E yX4_joinOrPart cX4_joinOrPart 3 none (rmN 1 22) [.ref (eAd E 7), .int x1] μ P := by
  refine mc_entryv (by decide +kernel) (Nat.le_of_ble_eq_true rfl) (fun p e s m below meth c C hr => ?_)
  exact so_X4_joinOrPart_0 C hr x1 μ h
set_option maxRecDepth 10000 in
set_option maxHeartbeats 4000000 in
theorem so_X4_link_114 {p : Program} {l : Launch} {e : Env} {s : State} {m : MethodId} {args : Array Value} {below : List Frame} {meth : Method} {c : Code} {E : EvT} {P : MemT → Prop} (C : Cx p s m args meth c E cX4_link 9 RX4) (hr : meth.sig.returnType = none) (x1 : Int32) (x2 : Int32) (x8 : Int32) (μ : MemT) (h : t_X4_link_114 P x1 x2 x8 μ) : V p l e (rmN 2 46) s m args below meth c E 9 0 0 (MQ below (va_Qv P (wdP E) (eA E s.heap.size)) args s 0 0 (eA E s.heap.size)) 114 [(0, .ref (eAd E 7)), (1, .int x1), (2, .int x2), (3, .ref (eAd E 1)), (4, .ref (eAd E 3)), (5, .ref (eAd E 4)), (6, .ref (eAd E 5)), (7, .ref (eAd E 6)), (8, .int x8)] [] μ := by
  unfold t_X4_link_114 at h
  refine v_aload_n C 0 rfl rfl dX4_link_114 ?_
  refine v_bipush (v := (10 : Int32)) C dX4_link_115 (by decide) ?_
  refine v_iconst (v := (-1 : Int32)) C dX4_link_117 (by decide) ?_
  obtain ⟨P1, hs, h⟩ := h
  refine v_callVv C 7 [.int (10 : Int32), .int (-1 : Int32)] (by decide) rfl rfl rfl (so_X4_put (10 : Int32) (-1 : Int32) μ P1 hs) gw_X4_46 rfl rfl dd_X4_put ⟨by decide, by decide⟩ rfl rfl (Nat.le_of_ble_eq_true rfl) ⟨by decide, by decide⟩ dX4_link_118 (fun μ2 q3 => ?_)
  replace h := h μ2 q3
  exact v_vret C hr h dX4_link_121
set_option maxRecDepth 10000 in
set_option maxHeartbeats 4000000 in
theorem so_X4_link_68 {p : Program} {l : Launch} {e : Env} {s : State} {m : MethodId} {args : Array Value} {below : List Frame} {meth : Method} {c : Code} {E : EvT} {P : MemT → Prop} (C : Cx p s m args meth c E cX4_link 9 RX4) (hr : meth.sig.returnType = none) (x1 : Int32) (x2 : Int32) (x8 : Int32) (μ : MemT) (h : t_X4_link_68 P x1 x2 x8 μ) : V p l e (rmN 2 46) s m args below meth c E 9 0 0 (MQ below (va_Qv P (wdP E) (eA E s.heap.size)) args s 0 0 (eA E s.heap.size)) 68 [(0, .ref (eAd E 7)), (1, .int x1), (2, .int x2), (3, .ref (eAd E 1)), (4, .ref (eAd E 3)), (5, .ref (eAd E 4)), (6, .ref (eAd E 5)), (7, .ref (eAd E 6)), (8, .int x8)] [] μ := by
  unfold t_X4_link_68 at h
  refine v_iload C 8 rfl dX4_link_68 ?_
  refine v_if_ne C 114 (by decide) dX4_link_70 (fun q13 => ?_) (fun q13 => ?_)
  · replace h := h.1 q13
    exact so_X4_link_114 C hr _ _ _ _ h
  · replace h := h.2 q13
    refine v_aload_n C 3 rfl rfl dX4_link_73 ?_
    refine gf_X4_56 C dX4_link_74 ?_
    refine v_iload_n C 1 rfl rfl dX4_link_77 ?_
    obtain ⟨b1, h⟩ := h
    refine v_iald C 16 (by decide) rfl b1 dX4_link_78 ?_
    refine v_aload_n C 3 rfl rfl dX4_link_79 ?_
    refine gf_X4_56 C dX4_link_80 ?_
    refine v_iload_n C 2 rfl rfl dX4_link_83 ?_
    obtain ⟨b2, h⟩ := h
    refine v_iald C 16 (by decide) rfl b2 dX4_link_84 ?_
    refine v_icmp_ne C 114 (by decide) dX4_link_85 (fun q12 => ?_) (fun q12 => ?_)
    · replace h := h.1 q12
      exact so_X4_link_114 C hr _ _ _ _ h
    · replace h := h.2 q12
      refine v_aload C 7 rfl dX4_link_88 ?_
      refine v_aload C 6 rfl dX4_link_90 ?_
      refine v_iload_n C 1 rfl rfl dX4_link_92 ?_
      refine v_iload_n C 2 rfl rfl dX4_link_93 ?_
      obtain ⟨P3, hs, h⟩ := h
      refine v_callVi C 6 [.ref (eAd E 5), .int x1, .int x2] (by decide) rfl rfl rfl (so_X0_areOfOne x1 x2 μ P3 hs) gw_X4_83 rfl rfl dd_X0_areOfOne ⟨by decide, by decide⟩ rfl rfl (Nat.le_of_ble_eq_true rfl) ⟨by decide, by decide⟩ dX4_link_94 (fun r6 μ4 q5 => ?_)
      replace h := h r6 μ4 q5
      refine v_if_eq C 114 (by decide) dX4_link_97 (fun q11 => ?_) (fun q11 => ?_)
      · replace h := h.1 q11
        exact so_X4_link_114 C hr _ _ _ _ h
      · replace h := h.2 q11
        refine v_aload_n C 0 rfl rfl dX4_link_100 ?_
        refine v_aload C 4 rfl dX4_link_101 ?_
        refine gf_X4_41 C dX4_link_103 ?_
        refine v_iload_n C 2 rfl rfl dX4_link_106 ?_
        obtain ⟨b7, h⟩ := h
        refine v_iald C 21 (by decide) rfl b7 dX4_link_107 ?_
        obtain ⟨P8, hs, h⟩ := h
        refine v_callVv C 7 [.int (μ4.1 21 x2.toNatClampNeg)] (by decide) rfl rfl rfl (so_X4_joinOrPart (μ4.1 21 x2.toNatClampNeg) μ4 P8 hs) gw_X4_87 rfl rfl dd_X4_joinOrPart ⟨by decide, by decide⟩ rfl rfl (Nat.le_of_ble_eq_true rfl) ⟨by decide, by decide⟩ dX4_link_108 (fun μ9 q10 => ?_)
        replace h := h μ9 q10
        refine v_goto C 121 (by decide) dX4_link_111 ?_
        exact v_vret C hr h dX4_link_121
set_option maxRecDepth 10000 in
set_option maxHeartbeats 4000000 in
theorem so_X4_link_22 {p : Program} {l : Launch} {e : Env} {s : State} {m : MethodId} {args : Array Value} {below : List Frame} {meth : Method} {c : Code} {E : EvT} {P : MemT → Prop} (C : Cx p s m args meth c E cX4_link 9 RX4) (hr : meth.sig.returnType = none) (x1 : Int32) (x2 : Int32) (y0 : Int32) (μ : MemT) (h : t_X4_link_22 P x1 x2 y0 μ) : V p l e (rmN 2 46) s m args below meth c E 9 0 0 (MQ below (va_Qv P (wdP E) (eA E s.heap.size)) args s 0 0 (eA E s.heap.size)) 22 [(0, .ref (eAd E 7)), (1, .int x1), (2, .int x2), (3, .ref (eAd E 1)), (4, .ref (eAd E 3)), (5, .ref (eAd E 4)), (6, .ref (eAd E 5)), (7, .ref (eAd E 6))] [.int y0] μ := by
  unfold t_X4_link_22 at h
  refine v_istore C [(8, .int y0), (0, .ref (eAd E 7)), (1, .int x1), (2, .int x2), (3, .ref (eAd E 1)), (4, .ref (eAd E 3)), (5, .ref (eAd E 4)), (6, .ref (eAd E 5)), (7, .ref (eAd E 6))] (by decide) rfl dX4_link_22 ?_
  refine v_iload C 0 rfl dX4_link_24 ?_
  refine v_if_eq C 68 (by decide) dX4_link_26 (fun q9 => ?_) (fun q9 => ?_)
  · replace h := h.1 q9
    refine v_sub C [1, 2, 3, 4, 5, 6, 7, 8, 0] rfl ?_
    exact so_X4_link_68 C hr _ _ _ _ h
  · replace h := h.2 q9
    refine v_aload C 6 rfl dX4_link_29 ?_
    refine gf_X4_76 C dX4_link_31 ?_
    refine v_iload_n C 3 rfl rfl dX4_link_34 ?_
    obtain ⟨b1, h⟩ := h
    refine v_iald C 25 (by decide) rfl b1 dX4_link_35 ?_
    refine v_aload C 6 rfl dX4_link_36 ?_
    refine gf_X4_76 C dX4_link_38 ?_
    refine v_iload_n C 2 rfl rfl dX4_link_41 ?_
    obtain ⟨b2, h⟩ := h
    refine v_iald C 25 (by decide) rfl b2 dX4_link_42 ?_
    refine v_iconst (v := (1 : Int32)) C dX4_link_43 (by decide) ?_
    refine v_iadd C dX4_link_44 ?_
    refine v_icmp_ne C 68 (by decide) dX4_link_45 (fun q8 => ?_) (fun q8 => ?_)
    · replace h := h.1 q8
      refine v_sub C [1, 2, 3, 4, 5, 6, 7, 8, 0] rfl ?_
      exact so_X4_link_68 C hr _ _ _ _ h
    · replace h := h.2 q8
      refine v_aload C 7 rfl dX4_link_48 ?_
      refine gf_X4_79 C dX4_link_50 ?_
      refine v_iload_n C 2 rfl rfl dX4_link_53 ?_
      obtain ⟨b3, h⟩ := h
      refine v_zald C 28 (by decide) rfl b3 dX4_link_54 ?_
      refine v_if_eq C 121 (by decide) dX4_link_55 (fun q7 => ?_) (fun q7 => ?_)
      · replace h := h.1 q7
        exact v_vret C hr h dX4_link_121
      · replace h := h.2 q7
        refine v_aload_n C 1 rfl rfl dX4_link_58 ?_
        refine v_bipush (v := (32 : Int32)) C dX4_link_59 (by decide) ?_
        refine v_iconst (v := (-1 : Int32)) C dX4_link_61 (by decide) ?_
        obtain ⟨P4, hs, h⟩ := h
        refine v_callVv C 7 [.int (32 : Int32), .int (-1 : Int32)] (by decide) rfl rfl rfl (so_X4_put (32 : Int32) (-1 : Int32) μ P4 hs) gw_X4_46 rfl rfl dd_X4_put ⟨by decide, by decide⟩ rfl rfl (Nat.le_of_ble_eq_true rfl) ⟨by decide, by decide⟩ dX4_link_62 (fun μ5 q6 => ?_)
        replace h := h μ5 q6
        refine v_goto C 121 (by decide) dX4_link_65 ?_
        exact v_vret C hr h dX4_link_121
set_option maxRecDepth 10000 in
set_option maxHeartbeats 4000000 in
theorem so_X4_link_0 {p : Program} {l : Launch} {e : Env} {s : State} {m : MethodId} {args : Array Value} {below : List Frame} {meth : Method} {c : Code} {E : EvT} {P : MemT → Prop} (C : Cx p s m args meth c E cX4_link 9 RX4) (hr : meth.sig.returnType = none) (x1 : Int32) (x2 : Int32) (μ : MemT) (h : t_X4_link_0 P x1 x2 μ) : V p l e (rmN 2 46) s m args below meth c E 9 0 0 (MQ below (va_Qv P (wdP E) (eA E s.heap.size)) args s 0 0 (eA E s.heap.size)) 0 [(0, .ref (eAd E 7)), (1, .int x1), (2, .int x2), (3, .ref (eAd E 1)), (4, .ref (eAd E 3)), (5, .ref (eAd E 4)), (6, .ref (eAd E 5)), (7, .ref (eAd E 6))] [] μ := by
  unfold t_X4_link_0 at h
  refine v_aload C 6 rfl dX4_link_0 ?_
  refine gf_X4_71 C dX4_link_2 ?_
  refine v_iload_n C 1 rfl rfl dX4_link_5 ?_
  obtain ⟨b1, h⟩ := h
  refine v_iald C 27 (by decide) rfl b1 dX4_link_6 ?_
  refine v_aload C 6 rfl dX4_link_7 ?_
  refine gf_X4_71 C dX4_link_9 ?_
  refine v_iload_n C 2 rfl rfl dX4_link_12 ?_
  obtain ⟨b2, h⟩ := h
  refine v_iald C 27 (by decide) rfl b2 dX4_link_13 ?_
  refine v_icmp_ne C 21 (by decide) dX4_link_14 (fun q3 => ?_) (fun q3 => ?_)
  · replace h := h.1 q3
    refine v_iconst (v := (0 : Int32)) C dX4_link_21 (by decide) ?_
    exact so_X4_link_22 C hr _ _ _ _ h
  · replace h := h.2 q3
    refine v_iconst (v := (1 : Int32)) C dX4_link_17 (by decide) ?_
    refine v_goto C 22 (by decide) dX4_link_18 ?_
    exact so_X4_link_22 C hr _ _ _ _ h
set_option maxRecDepth 10000 in
set_option maxHeartbeats 4000000 in
theorem so_X4_link {l : Launch} {E : EvT} (x1 : Int32) (x2 : Int32) (μ : MemT) (P : MemT → Prop) (h : sp_X4_link x1 x2 μ P) : MCv l E yX4_link cX4_link 9 none (rmN 2 46) [.ref (eAd E 7), .int x1, .int x2, .ref (eAd E 1), .ref (eAd E 3), .ref (eAd E 4), .ref (eAd E 5), .ref (eAd E 6)] μ P := by
  refine mc_entryv (by decide +kernel) (Nat.le_of_ble_eq_true rfl) (fun p e s m below meth c C hr => ?_)
  exact so_X4_link_0 C hr x1 x2 μ h
set_option maxRecDepth 10000 in
set_option maxHeartbeats 4000000 in
theorem so_X4_write_63 {p : Program} {l : Launch} {e : Env} {s : State} {m : MethodId} {args : Array Value} {below : List Frame} {meth : Method} {c : Code} {E : EvT} {P : MemT → Prop} (C : Cx p s m args meth c E cX4_write 8 RX4) (hr : meth.sig.returnType = none) {K18 : Int32 → MemT → Prop} (hK18 : ∀ (x6 : Int32) (μ : MemT), K18 x6 μ → V p l e (rmN 3 74) s m args below meth c E 8 0 0 (MQ below (va_Qv P (wdP E) (eA E s.heap.size)) args s 0 0 (eA E s.heap.size)) 18 [(0, .ref (eAd E 7)), (1, .ref (eAd E 1)), (2, .ref (eAd E 3)), (3, .ref (eAd E 4)), (4, .ref (eAd E 5)), (5, .ref (eAd E 6)), (6, .int x6)] [] μ) (x6 : Int32) (x7 : Int32) (μ : MemT) (h : t_X4_write_63 K18 P x6 x7 μ) : V p l e (rmN 3 74) s m args below meth c E 8 0 0 (MQ below (va_Qv P (wdP E) (eA E s.heap.size)) args s 0 0 (eA E s.heap.size)) 63 [(0, .ref (eAd E 7)), (1, .ref (eAd E 1)), (2, .ref (eAd E 3)), (3, .ref (eAd E 4)), (4, .ref (eAd E 5)), (5, .ref (eAd E 6)), (6, .int x6), (7, .int x7)] [] μ := by
  unfold t_X4_write_63 at h
  refine v_aload_n C 0 rfl rfl dX4_write_63 ?_
  refine v_aload_n C 2 rfl rfl dX4_write_64 ?_
  refine gf_X4_41 C dX4_write_65 ?_
  refine v_iload C 7 rfl dX4_write_68 ?_
  obtain ⟨b1, h⟩ := h
  refine v_iald C 21 (by decide) rfl b1 dX4_write_70 ?_
  refine v_iload C 7 rfl dX4_write_71 ?_
  obtain ⟨P2, hs, h⟩ := h
  refine v_callVv C 7 [.int (μ.1 21 x7.toNatClampNeg), .int x7] (by decide) rfl rfl rfl (so_X4_put (μ.1 21 x7.toNatClampNeg) x7 μ P2 hs) gw_X4_46 rfl rfl dd_X4_put ⟨by decide, by decide⟩ rfl rfl (Nat.le_of_ble_eq_true rfl) ⟨by decide, by decide⟩ dX4_write_73 (fun μ3 q4 => ?_)
  replace h := h μ3 q4
  refine v_aload_n C 2 rfl rfl dX4_write_76 ?_
  refine gf_X4_50 C dX4_write_77 ?_
  refine v_iload C 7 rfl dX4_write_80 ?_
  obtain ⟨b5, h⟩ := h
  refine v_iald C 22 (by decide) rfl b5 dX4_write_82 ?_
  refine v_if_eq C 99 (by decide) dX4_write_83 (fun q10 => ?_) (fun q10 => ?_)
  · replace h := h.1 q10
    refine v_iinc (v := (x6 + 1)) C 6 [(6, .int (x6 + 1)), (0, .ref (eAd E 7)), (1, .ref (eAd E 1)), (2, .ref (eAd E 3)), (3, .ref (eAd E 4)), (4, .ref (eAd E 5)), (5, .ref (eAd E 6)), (7, .int x7)] rfl rfl (by decide) rfl dX4_write_99 ?_
    refine v_goto C 18 (by decide) dX4_write_102 ?_
    refine v_sub C [1, 2, 3, 4, 5, 6, 0] rfl ?_
    exact hK18 _ _ h
  · replace h := h.2 q10
    refine v_aload_n C 0 rfl rfl dX4_write_86 ?_
    refine v_aload_n C 2 rfl rfl dX4_write_87 ?_
    refine gf_X4_50 C dX4_write_88 ?_
    refine v_iload C 7 rfl dX4_write_91 ?_
    obtain ⟨b6, h⟩ := h
    refine v_iald C 22 (by decide) rfl b6 dX4_write_93 ?_
    refine v_iload C 7 rfl dX4_write_94 ?_
    obtain ⟨P7, hs, h⟩ := h
    refine v_callVv C 7 [.int (μ3.1 22 x7.toNatClampNeg), .int x7] (by decide) rfl rfl rfl (so_X4_put (μ3.1 22 x7.toNatClampNeg) x7 μ3 P7 hs) gw_X4_46 rfl rfl dd_X4_put ⟨by decide, by decide⟩ rfl rfl (Nat.le_of_ble_eq_true rfl) ⟨by decide, by decide⟩ dX4_write_96 (fun μ8 q9 => ?_)
    replace h := h μ8 q9
    refine v_iinc (v := (x6 + 1)) C 6 [(6, .int (x6 + 1)), (0, .ref (eAd E 7)), (1, .ref (eAd E 1)), (2, .ref (eAd E 3)), (3, .ref (eAd E 4)), (4, .ref (eAd E 5)), (5, .ref (eAd E 6)), (7, .int x7)] rfl rfl (by decide) rfl dX4_write_99 ?_
    refine v_goto C 18 (by decide) dX4_write_102 ?_
    refine v_sub C [1, 2, 3, 4, 5, 6, 0] rfl ?_
    exact hK18 _ _ h
set_option maxRecDepth 10000 in
set_option maxHeartbeats 4000000 in
theorem so_X4_write_18 {p : Program} {l : Launch} {e : Env} {s : State} {m : MethodId} {args : Array Value} {below : List Frame} {meth : Method} {c : Code} {E : EvT} {P : MemT → Prop} (C : Cx p s m args meth c E cX4_write 8 RX4) (hr : meth.sig.returnType = none) {K18 : Int32 → MemT → Prop} (hK18 : ∀ (x6 : Int32) (μ : MemT), K18 x6 μ → V p l e (rmN 3 74) s m args below meth c E 8 0 0 (MQ below (va_Qv P (wdP E) (eA E s.heap.size)) args s 0 0 (eA E s.heap.size)) 18 [(0, .ref (eAd E 7)), (1, .ref (eAd E 1)), (2, .ref (eAd E 3)), (3, .ref (eAd E 4)), (4, .ref (eAd E 5)), (5, .ref (eAd E 6)), (6, .int x6)] [] μ) (x6 : Int32) (μ : MemT) (h : t_X4_write_18 K18 P x6 μ) : V p l e (rmN 3 74) s m args below meth c E 8 0 0 (MQ below (va_Qv P (wdP E) (eA E s.heap.size)) args s 0 0 (eA E s.heap.size)) 18 [(0, .ref (eAd E 7)), (1, .ref (eAd E 1)), (2, .ref (eAd E 3)), (3, .ref (eAd E 4)), (4, .ref (eAd E 5)), (5, .ref (eAd E 6)), (6, .int x6)] [] μ := by
  unfold t_X4_write_18 at h
  refine v_iload C 6 rfl dX4_write_18 ?_
  refine v_aload_n C 3 rfl rfl dX4_write_20 ?_
  refine gf_X4_32 C dX4_write_21 ?_
  refine v_icmp_ge C 105 (by decide) dX4_write_24 (fun q7 => ?_) (fun q7 => ?_)
  · replace h := h.1 q7
    exact v_vret C hr h dX4_write_105
  · replace h := h.2 q7
    refine v_aload_n C 0 rfl rfl dX4_write_27 ?_
    refine gf_X4_22 C dX4_write_28 ?_
    refine v_iload C 6 rfl dX4_write_31 ?_
    obtain ⟨b1, h⟩ := h
    refine v_iald C 41 (by decide) rfl b1 dX4_write_33 ?_
    refine v_istore C [(7, .int (μ.1 41 x6.toNatClampNeg)), (0, .ref (eAd E 7)), (1, .ref (eAd E 1)), (2, .ref (eAd E 3)), (3, .ref (eAd E 4)), (4, .ref (eAd E 5)), (5, .ref (eAd E 6)), (6, .int x6)] (by decide) rfl dX4_write_34 ?_
    refine v_iload C 7 rfl dX4_write_36 ?_
    refine v_if_le C 63 (by decide) dX4_write_38 (fun q6 => ?_) (fun q6 => ?_)
    · replace h := h.1 q6
      refine v_sub C [1, 2, 3, 4, 5, 6, 7, 0] rfl ?_
      exact so_X4_write_63 C hr hK18 _ _ _ h
    · replace h := h.2 q6
      refine v_aload_n C 1 rfl rfl dX4_write_41 ?_
      refine v_aload_n C 1 rfl rfl dX4_write_42 ?_
      refine gf_X4_22 C dX4_write_43 ?_
      refine v_iload C 7 rfl dX4_write_46 ?_
      refine v_iconst (v := (1 : Int32)) C dX4_write_48 (by decide) ?_
      refine v_isub C dX4_write_49 ?_
      obtain ⟨b2, h⟩ := h
      refine v_iald C 41 (by decide) rfl b2 dX4_write_50 ?_
      refine v_iload C 0 rfl dX4_write_51 ?_
      refine v_aload_n C 2 rfl rfl dX4_write_53 ?_
      refine v_aload_n C 3 rfl rfl dX4_write_54 ?_
      refine v_aload_n C 4 rfl rfl dX4_write_55 ?_
      refine v_aload C 5 rfl dX4_write_56 ?_
      refine v_aload C 6 rfl dX4_write_58 ?_
      obtain ⟨P3, hs, h⟩ := h
      refine v_callVv C 7 [.int (μ.1 41 (x6 - (1 : Int32)).toNatClampNeg), .int (μ.1 41 x6.toNatClampNeg), .ref (eAd E 1), .ref (eAd E 3), .ref (eAd E 4), .ref (eAd E 5), .ref (eAd E 6)] (by decide) rfl rfl rfl (so_X4_link (μ.1 41 (x6 - (1 : Int32)).toNatClampNeg) (μ.1 41 x6.toNatClampNeg) μ P3 hs) gw_X4_37 rfl rfl dd_X4_link ⟨by decide, by decide⟩ rfl rfl (Nat.le_of_ble_eq_true rfl) ⟨by decide, by decide⟩ dX4_write_60 (fun μ4 q5 => ?_)
      replace h := h μ4 q5
      refine v_sub C [1, 2, 3, 4, 5, 6, 7, 0] rfl ?_
      exact so_X4_write_63 C hr hK18 _ _ _ h
set_option maxRecDepth 10000 in
set_option maxHeartbeats 4000000 in
theorem so_X4_write_0 {p : Program} {l : Launch} {e : Env} {s : State} {m : MethodId} {args : Array Value} {below : List Frame} {meth : Method} {c : Code} {E : EvT} {P : MemT → Prop} (C : Cx p s m args meth c E cX4_write 8 RX4) (hr : meth.sig.returnType = none) {K18 : Int32 → MemT → Prop} (hK18 : ∀ (x6 : Int32) (μ : MemT), K18 x6 μ → V p l e (rmN 3 74) s m args below meth c E 8 0 0 (MQ below (va_Qv P (wdP E) (eA E s.heap.size)) args s 0 0 (eA E s.heap.size)) 18 [(0, .ref (eAd E 7)), (1, .ref (eAd E 1)), (2, .ref (eAd E 3)), (3, .ref (eAd E 4)), (4, .ref (eAd E 5)), (5, .ref (eAd E 6)), (6, .int x6)] [] μ) (μ : MemT) (h : t_X4_write_0 K18 P  μ) : V p l e (rmN 3 74) s m args below meth c E 8 0 0 (MQ below (va_Qv P (wdP E) (eA E s.heap.size)) args s 0 0 (eA E s.heap.size)) 0 [(0, .ref (eAd E 7)), (1, .ref (eAd E 1)), (2, .ref (eAd E 3)), (3, .ref (eAd E 4)), (4, .ref (eAd E 5)), (5, .ref (eAd E 6))] [] μ := by
  unfold t_X4_write_0 at h
  refine v_aload_n C 0 rfl rfl dX4_write_0 ?_
  refine v_aload_n C 1 rfl rfl dX4_write_1 ?_
  refine v_aload_n C 3 rfl rfl dX4_write_2 ?_
  refine v_aload C 4 rfl dX4_write_3 ?_
  refine v_aload C 5 rfl dX4_write_5 ?_
  obtain ⟨P1, hs, h⟩ := h
  refine v_callVv C 7 [.ref (eAd E 1), .ref (eAd E 4), .ref (eAd E 5), .ref (eAd E 6)] (by decide) rfl rfl rfl (so_X4_bringInOrder μ P1 hs) gw_X4_28 rfl rfl dd_X4_bringInOrder ⟨by decide, by decide⟩ rfl rfl (Nat.le_of_ble_eq_true rfl) ⟨by decide, by decide⟩ dX4_write_7 (fun μ2 q3 => ?_)
  replace h := h μ2 q3
  refine v_aload_n C 0 rfl rfl dX4_write_10 ?_
  refine v_iconst (v := (0 : Int32)) C dX4_write_11 (by decide) ?_
  refine pf_X4_9 C dX4_write_12 ?_
  refine v_nmM (fun μ4 e_μ4 => ?_)
  replace h := h μ4 e_μ4
  refine v_iconst (v := (0 : Int32)) C dX4_write_15 (by decide) ?_
  refine v_istore C [(6, .int (0 : Int32)), (0, .ref (eAd E 7)), (1, .ref (eAd E 1)), (2, .ref (eAd E 3)), (3, .ref (eAd E 4)), (4, .ref (eAd E 5)), (5, .ref (eAd E 6))] (by decide) rfl dX4_write_16 ?_
  refine v_sub C [1, 2, 3, 4, 5, 6, 0] rfl ?_
  exact hK18 _ _ h
set_option maxRecDepth 10000 in
set_option maxHeartbeats 4000000 in
theorem so_X4_write {l : Launch} {E : EvT} (μ : MemT) (P : MemT → Prop) (h : sp_X4_write  μ P) : MCv l E yX4_write cX4_write 8 none (rmN 3 74) [.ref (eAd E 7), .ref (eAd E 1), .ref (eAd E 3), .ref (eAd E 4), .ref (eAd E 5), .ref (eAd E 6)] μ P := by
  refine mc_entryv (by decide +kernel) (Nat.le_of_ble_eq_true rfl) (fun p e s m below meth c C hr => ?_)
  have h0 := h (fun x6_ μ => V p l e (rmN 3 74) s m ([.ref (eAd E 7), .ref (eAd E 1), .ref (eAd E 3), .ref (eAd E 4), .ref (eAd E 5), .ref (eAd E 6)] : List Value).toArray below meth c E 8 0 0 (MQ below (va_Qv P (wdP E) (eA E s.heap.size)) ([.ref (eAd E 7), .ref (eAd E 1), .ref (eAd E 3), .ref (eAd E 4), .ref (eAd E 5), .ref (eAd E 6)] : List Value).toArray s 0 0 (eA E s.heap.size)) 18 [(0, .ref (eAd E 7)), (1, .ref (eAd E 1)), (2, .ref (eAd E 3)), (3, .ref (eAd E 4)), (4, .ref (eAd E 5)), (5, .ref (eAd E 6)), (6, .int x6_)] [] μ) (fun x6 μ ht => so_X4_write_18 C hr (fun x6 μ hk => hk) x6 μ ht) 
  exact so_X4_write_0 C hr (fun x6 μ hk => hk)  μ h0
set_option maxRecDepth 10000 in
set_option maxHeartbeats 4000000 in
theorem so_X4_isInWord_0 {p : Program} {l : Launch} {e : Env} {s : State} {m : MethodId} {args : Array Value} {below : List Frame} {meth : Method} {c : Code} {E : EvT} {P : Int32 → MemT → Prop} (C : Cx p s m args meth c E cX4_isInWord 2 RX4) (hr : meth.sig.returnType = (some .boolean)) (x1 : Int32) (μ : MemT) (h : t_X4_isInWord_0 P x1 μ) : V p l e (rmN 0 0) s m args below meth c E 2 0 0 (MQ below (va_Qi P (wdP E) (eA E s.heap.size)) args s 0 0 (eA E s.heap.size)) 0 [(0, .ref (eAd E 7)), (1, .int x1)] [] μ := by
  unfold t_X4_isInWord_0 at h
  refine v_aload_n C 0 rfl rfl dX4_isInWord_0 ?_
  refine gf_X4_15 C dX4_isInWord_1 ?_
  refine v_iload_n C 1 rfl rfl dX4_isInWord_4 ?_
  obtain ⟨b1, h⟩ := h
  refine v_iald C 39 (by decide) rfl b1 dX4_isInWord_5 ?_
  refine v_bipush (v := (10 : Int32)) C dX4_isInWord_6 (by decide) ?_
  refine v_icmp_eq C 26 (by decide) dX4_isInWord_8 (fun q4 => ?_) (fun q4 => ?_)
  · replace h := h.1 q4
    refine v_iconst (v := (0 : Int32)) C dX4_isInWord_26 (by decide) ?_
    exact v_zret C hr nb0 h dX4_isInWord_27
  · replace h := h.2 q4
    refine v_aload_n C 0 rfl rfl dX4_isInWord_11 ?_
    refine gf_X4_15 C dX4_isInWord_12 ?_
    refine v_iload_n C 1 rfl rfl dX4_isInWord_15 ?_
    obtain ⟨b2, h⟩ := h
    refine v_iald C 39 (by decide) rfl b2 dX4_isInWord_16 ?_
    refine v_bipush (v := (32 : Int32)) C dX4_isInWord_17 (by decide) ?_
    refine v_icmp_eq C 26 (by decide) dX4_isInWord_19 (fun q3 => ?_) (fun q3 => ?_)
    · replace h := h.1 q3
      refine v_iconst (v := (0 : Int32)) C dX4_isInWord_26 (by decide) ?_
      exact v_zret C hr nb0 h dX4_isInWord_27
    · replace h := h.2 q3
      refine v_iconst (v := (1 : Int32)) C dX4_isInWord_22 (by decide) ?_
      refine v_goto C 27 (by decide) dX4_isInWord_23 ?_
      exact v_zret C hr nb1 h dX4_isInWord_27
set_option maxRecDepth 10000 in
set_option maxHeartbeats 4000000 in
theorem so_X4_isInWord {l : Launch} {E : EvT} (x1 : Int32) (μ : MemT) (P : Int32 → MemT → Prop) (h : sp_X4_isInWord x1 μ P) : MCi l E yX4_isInWord cX4_isInWord 2 (some .boolean) (rmN 0 0) [.ref (eAd E 7), .int x1] μ P := by
  refine mc_entryi (by decide +kernel) (Nat.le_of_ble_eq_true rfl) (fun p e s m below meth c C hr => ?_)
  exact so_X4_isInWord_0 C hr x1 μ h
set_option maxRecDepth 10000 in
set_option maxHeartbeats 4000000 in
theorem so_X4_startsWord_0 {p : Program} {l : Launch} {e : Env} {s : State} {m : MethodId} {args : Array Value} {below : List Frame} {meth : Method} {c : Code} {E : EvT} {P : Int32 → MemT → Prop} (C : Cx p s m args meth c E cX4_startsWord 2 RX4) (hr : meth.sig.returnType = (some .boolean)) (x1 : Int32) (μ : MemT) (h : t_X4_startsWord_0 P x1 μ) : V p l e (rmN 1 21) s m args below meth c E 2 0 0 (MQ below (va_Qi P (wdP E) (eA E s.heap.size)) args s 0 0 (eA E s.heap.size)) 0 [(0, .ref (eAd E 7)), (1, .int x1)] [] μ := by
  unfold t_X4_startsWord_0 at h
  refine v_aload_n C 0 rfl rfl dX4_startsWord_0 ?_
  refine v_iload_n C 1 rfl rfl dX4_startsWord_1 ?_
  obtain ⟨P1, hs, h⟩ := h
  refine v_callVi C 7 [.int x1] (by decide) rfl rfl rfl (so_X4_isInWord x1 μ P1 hs) gw_X4_95 rfl rfl dd_X4_isInWord ⟨by decide, by decide⟩ rfl rfl (Nat.le_of_ble_eq_true rfl) ⟨by decide, by decide⟩ dX4_startsWord_2 (fun r4 μ2 q3 => ?_)
  replace h := h r4 μ2 q3
  refine v_if_eq C 26 (by decide) dX4_startsWord_5 (fun q11 => ?_) (fun q11 => ?_)
  · replace h := h.1 q11
    refine v_iconst (v := (0 : Int32)) C dX4_startsWord_26 (by decide) ?_
    exact v_zret C hr nb0 h dX4_startsWord_27
  · replace h := h.2 q11
    refine v_iload_n C 1 rfl rfl dX4_startsWord_8 ?_
    refine v_if_eq C 22 (by decide) dX4_startsWord_9 (fun q10 => ?_) (fun q10 => ?_)
    · replace h := h.1 q10
      refine v_iconst (v := (1 : Int32)) C dX4_startsWord_22 (by decide) ?_
      refine v_goto C 27 (by decide) dX4_startsWord_23 ?_
      exact v_zret C hr nb1 h dX4_startsWord_27
    · replace h := h.2 q10
      refine v_aload_n C 0 rfl rfl dX4_startsWord_12 ?_
      refine v_iload_n C 1 rfl rfl dX4_startsWord_13 ?_
      refine v_iconst (v := (1 : Int32)) C dX4_startsWord_14 (by decide) ?_
      refine v_isub C dX4_startsWord_15 ?_
      obtain ⟨P5, hs, h⟩ := h
      refine v_callVi C 7 [.int (x1 - (1 : Int32))] (by decide) rfl rfl rfl (so_X4_isInWord (x1 - (1 : Int32)) μ2 P5 hs) gw_X4_95 rfl rfl dd_X4_isInWord ⟨by decide, by decide⟩ rfl rfl (Nat.le_of_ble_eq_true rfl) ⟨by decide, by decide⟩ dX4_startsWord_16 (fun r8 μ6 q7 => ?_)
      replace h := h r8 μ6 q7
      refine v_if_ne C 26 (by decide) dX4_startsWord_19 (fun q9 => ?_) (fun q9 => ?_)
      · replace h := h.1 q9
        refine v_iconst (v := (0 : Int32)) C dX4_startsWord_26 (by decide) ?_
        exact v_zret C hr nb0 h dX4_startsWord_27
      · replace h := h.2 q9
        refine v_iconst (v := (1 : Int32)) C dX4_startsWord_22 (by decide) ?_
        refine v_goto C 27 (by decide) dX4_startsWord_23 ?_
        exact v_zret C hr nb1 h dX4_startsWord_27
set_option maxRecDepth 10000 in
set_option maxHeartbeats 4000000 in
theorem so_X4_startsWord {l : Launch} {E : EvT} (x1 : Int32) (μ : MemT) (P : Int32 → MemT → Prop) (h : sp_X4_startsWord x1 μ P) : MCi l E yX4_startsWord cX4_startsWord 2 (some .boolean) (rmN 1 21) [.ref (eAd E 7), .int x1] μ P := by
  refine mc_entryi (by decide +kernel) (Nat.le_of_ble_eq_true rfl) (fun p e s m below meth c C hr => ?_)
  exact so_X4_startsWord_0 C hr x1 μ h
set_option maxRecDepth 10000 in
set_option maxHeartbeats 4000000 in
theorem so_X4_countWords_4 {p : Program} {l : Launch} {e : Env} {s : State} {m : MethodId} {args : Array Value} {below : List Frame} {meth : Method} {c : Code} {E : EvT} {P : Int32 → MemT → Prop} (C : Cx p s m args meth c E cX4_countWords 3 RX4) (hr : meth.sig.returnType = (some .int)) {K4 : Int32 → Int32 → MemT → Prop} (hK4 : ∀ (x1 : Int32) (x2 : Int32) (μ : MemT), K4 x1 x2 μ → V p l e (rmN 2 42) s m args below meth c E 3 0 0 (MQ below (va_Qi P (wdP E) (eA E s.heap.size)) args s 0 0 (eA E s.heap.size)) 4 [(0, .ref (eAd E 7)), (1, .int x1), (2, .int x2)] [] μ) (x1 : Int32) (x2 : Int32) (μ : MemT) (h : t_X4_countWords_4 K4 P x1 x2 μ) : V p l e (rmN 2 42) s m args below meth c E 3 0 0 (MQ below (va_Qi P (wdP E) (eA E s.heap.size)) args s 0 0 (eA E s.heap.size)) 4 [(0, .ref (eAd E 7)), (1, .int x1), (2, .int x2)] [] μ := by
  unfold t_X4_countWords_4 at h
  refine v_iload_n C 2 rfl rfl dX4_countWords_4 ?_
  refine v_aload_n C 0 rfl rfl dX4_countWords_5 ?_
  refine gf_X4_9 C dX4_countWords_6 ?_
  refine v_icmp_ge C 29 (by decide) dX4_countWords_9 (fun q6 => ?_) (fun q6 => ?_)
  · replace h := h.1 q6
    refine v_iload_n C 1 rfl rfl dX4_countWords_29 ?_
    exact v_iret C hr h dX4_countWords_30
  · replace h := h.2 q6
    refine v_aload_n C 0 rfl rfl dX4_countWords_12 ?_
    refine v_iload_n C 2 rfl rfl dX4_countWords_13 ?_
    obtain ⟨P1, hs, h⟩ := h
    refine v_callVi C 7 [.int x2] (by decide) rfl rfl rfl (so_X4_startsWord x2 μ P1 hs) gw_X4_91 rfl rfl dd_X4_startsWord ⟨by decide, by decide⟩ rfl rfl (Nat.le_of_ble_eq_true rfl) ⟨by decide, by decide⟩ dX4_countWords_14 (fun r4 μ2 q3 => ?_)
    replace h := h r4 μ2 q3
    refine v_if_eq C 23 (by decide) dX4_countWords_17 (fun q5 => ?_) (fun q5 => ?_)
    · replace h := h.1 q5
      refine v_iinc (v := (x2 + 1)) C 2 [(2, .int (x2 + 1)), (0, .ref (eAd E 7)), (1, .int x1)] rfl rfl (by decide) rfl dX4_countWords_23 ?_
      refine v_goto C 4 (by decide) dX4_countWords_26 ?_
      refine v_sub C [1, 2, 0] rfl ?_
      exact hK4 _ _ _ h
    · replace h := h.2 q5
      refine v_iinc (v := (x1 + 1)) C 1 [(1, .int (x1 + 1)), (0, .ref (eAd E 7)), (2, .int x2)] rfl rfl (by decide) rfl dX4_countWords_20 ?_
      refine v_iinc (v := (x2 + 1)) C 2 [(2, .int (x2 + 1)), (1, .int (x1 + 1)), (0, .ref (eAd E 7))] rfl rfl (by decide) rfl dX4_countWords_23 ?_
      refine v_goto C 4 (by decide) dX4_countWords_26 ?_
      refine v_sub C [2, 1, 0] rfl ?_
      exact hK4 _ _ _ h
set_option maxRecDepth 10000 in
set_option maxHeartbeats 4000000 in
theorem so_X4_countWords_0 {p : Program} {l : Launch} {e : Env} {s : State} {m : MethodId} {args : Array Value} {below : List Frame} {meth : Method} {c : Code} {E : EvT} {P : Int32 → MemT → Prop} (C : Cx p s m args meth c E cX4_countWords 3 RX4) (hr : meth.sig.returnType = (some .int)) {K4 : Int32 → Int32 → MemT → Prop} (hK4 : ∀ (x1 : Int32) (x2 : Int32) (μ : MemT), K4 x1 x2 μ → V p l e (rmN 2 42) s m args below meth c E 3 0 0 (MQ below (va_Qi P (wdP E) (eA E s.heap.size)) args s 0 0 (eA E s.heap.size)) 4 [(0, .ref (eAd E 7)), (1, .int x1), (2, .int x2)] [] μ) (μ : MemT) (h : t_X4_countWords_0 K4 P  μ) : V p l e (rmN 2 42) s m args below meth c E 3 0 0 (MQ below (va_Qi P (wdP E) (eA E s.heap.size)) args s 0 0 (eA E s.heap.size)) 0 [(0, .ref (eAd E 7))] [] μ := by
  unfold t_X4_countWords_0 at h
  refine v_iconst (v := (0 : Int32)) C dX4_countWords_0 (by decide) ?_
  refine v_istore_n C [(1, .int (0 : Int32)), (0, .ref (eAd E 7))] rfl (by decide) rfl dX4_countWords_1 ?_
  refine v_iconst (v := (0 : Int32)) C dX4_countWords_2 (by decide) ?_
  refine v_istore_n C [(2, .int (0 : Int32)), (1, .int (0 : Int32)), (0, .ref (eAd E 7))] rfl (by decide) rfl dX4_countWords_3 ?_
  refine v_sub C [2, 1, 0] rfl ?_
  exact hK4 _ _ _ h
set_option maxRecDepth 10000 in
set_option maxHeartbeats 4000000 in
theorem so_X4_countWords {l : Launch} {E : EvT} (μ : MemT) (P : Int32 → MemT → Prop) (h : sp_X4_countWords  μ P) : MCi l E yX4_countWords cX4_countWords 3 (some .int) (rmN 2 42) [.ref (eAd E 7)] μ P := by
  refine mc_entryi (by decide +kernel) (Nat.le_of_ble_eq_true rfl) (fun p e s m below meth c C hr => ?_)
  have h0 := h (fun x1_ x2_ μ => V p l e (rmN 2 42) s m ([.ref (eAd E 7)] : List Value).toArray below meth c E 3 0 0 (MQ below (va_Qi P (wdP E) (eA E s.heap.size)) ([.ref (eAd E 7)] : List Value).toArray s 0 0 (eA E s.heap.size)) 4 [(0, .ref (eAd E 7)), (1, .int x1_), (2, .int x2_)] [] μ) (fun x1 x2 μ ht => so_X4_countWords_4 C hr (fun x1 x2 μ hk => hk) x1 x2 μ ht) 
  exact so_X4_countWords_0 C hr (fun x1 x2 μ hk => hk)  μ h0
set_option maxRecDepth 10000 in
set_option maxHeartbeats 4000000 in
theorem so_X4_startOfWord_4 {p : Program} {l : Launch} {e : Env} {s : State} {m : MethodId} {args : Array Value} {below : List Frame} {meth : Method} {c : Code} {E : EvT} {P : Int32 → MemT → Prop} (C : Cx p s m args meth c E cX4_startOfWord 4 RX4) (hr : meth.sig.returnType = (some .int)) {K4 : Int32 → Int32 → Int32 → MemT → Prop} (hK4 : ∀ (x1 : Int32) (x2 : Int32) (x3 : Int32) (μ : MemT), K4 x1 x2 x3 μ → V p l e (rmN 2 42) s m args below meth c E 4 0 0 (MQ below (va_Qi P (wdP E) (eA E s.heap.size)) args s 0 0 (eA E s.heap.size)) 4 [(0, .ref (eAd E 7)), (1, .int x1), (2, .int x2), (3, .int x3)] [] μ) (x1 : Int32) (x2 : Int32) (x3 : Int32) (μ : MemT) (h : t_X4_startOfWord_4 K4 P x1 x2 x3 μ) : V p l e (rmN 2 42) s m args below meth c E 4 0 0 (MQ below (va_Qi P (wdP E) (eA E s.heap.size)) args s 0 0 (eA E s.heap.size)) 4 [(0, .ref (eAd E 7)), (1, .int x1), (2, .int x2), (3, .int x3)] [] μ := by
  unfold t_X4_startOfWord_4 at h
  refine v_iload_n C 3 rfl rfl dX4_startOfWord_4 ?_
  refine v_aload_n C 0 rfl rfl dX4_startOfWord_5 ?_
  refine gf_X4_9 C dX4_startOfWord_6 ?_
  refine v_icmp_ge C 36 (by decide) dX4_startOfWord_9 (fun q7 => ?_) (fun q7 => ?_)
  · replace h := h.1 q7
    refine v_iconst (v := (-1 : Int32)) C dX4_startOfWord_36 (by decide) ?_
    exact v_iret C hr h dX4_startOfWord_37
  · replace h := h.2 q7
    refine v_aload_n C 0 rfl rfl dX4_startOfWord_12 ?_
    refine v_iload_n C 3 rfl rfl dX4_startOfWord_13 ?_
    obtain ⟨P1, hs, h⟩ := h
    refine v_callVi C 7 [.int x3] (by decide) rfl rfl rfl (so_X4_startsWord x3 μ P1 hs) gw_X4_91 rfl rfl dd_X4_startsWord ⟨by decide, by decide⟩ rfl rfl (Nat.le_of_ble_eq_true rfl) ⟨by decide, by decide⟩ dX4_startOfWord_14 (fun r4 μ2 q3 => ?_)
    replace h := h r4 μ2 q3
    refine v_if_eq C 30 (by decide) dX4_startOfWord_17 (fun q6 => ?_) (fun q6 => ?_)
    · replace h := h.1 q6
      refine v_iinc (v := (x3 + 1)) C 3 [(3, .int (x3 + 1)), (0, .ref (eAd E 7)), (1, .int x1), (2, .int x2)] rfl rfl (by decide) rfl dX4_startOfWord_30 ?_
      refine v_goto C 4 (by decide) dX4_startOfWord_33 ?_
      refine v_sub C [1, 2, 3, 0] rfl ?_
      exact hK4 _ _ _ _ h
    · replace h := h.2 q6
      refine v_iload_n C 2 rfl rfl dX4_startOfWord_20 ?_
      refine v_iload_n C 1 rfl rfl dX4_startOfWord_21 ?_
      refine v_icmp_ne C 27 (by decide) dX4_startOfWord_22 (fun q5 => ?_) (fun q5 => ?_)
      · replace h := h.1 q5
        refine v_iinc (v := (x2 + 1)) C 2 [(2, .int (x2 + 1)), (0, .ref (eAd E 7)), (1, .int x1), (3, .int x3)] rfl rfl (by decide) rfl dX4_startOfWord_27 ?_
        refine v_iinc (v := (x3 + 1)) C 3 [(3, .int (x3 + 1)), (2, .int (x2 + 1)), (0, .ref (eAd E 7)), (1, .int x1)] rfl rfl (by decide) rfl dX4_startOfWord_30 ?_
        refine v_goto C 4 (by decide) dX4_startOfWord_33 ?_
        refine v_sub C [2, 3, 1, 0] rfl ?_
        exact hK4 _ _ _ _ h
      · replace h := h.2 q5
        refine v_iload_n C 3 rfl rfl dX4_startOfWord_25 ?_
        exact v_iret C hr h dX4_startOfWord_26
set_option maxRecDepth 10000 in
set_option maxHeartbeats 4000000 in
theorem so_X4_startOfWord_0 {p : Program} {l : Launch} {e : Env} {s : State} {m : MethodId} {args : Array Value} {below : List Frame} {meth : Method} {c : Code} {E : EvT} {P : Int32 → MemT → Prop} (C : Cx p s m args meth c E cX4_startOfWord 4 RX4) (hr : meth.sig.returnType = (some .int)) {K4 : Int32 → Int32 → Int32 → MemT → Prop} (hK4 : ∀ (x1 : Int32) (x2 : Int32) (x3 : Int32) (μ : MemT), K4 x1 x2 x3 μ → V p l e (rmN 2 42) s m args below meth c E 4 0 0 (MQ below (va_Qi P (wdP E) (eA E s.heap.size)) args s 0 0 (eA E s.heap.size)) 4 [(0, .ref (eAd E 7)), (1, .int x1), (2, .int x2), (3, .int x3)] [] μ) (x1 : Int32) (μ : MemT) (h : t_X4_startOfWord_0 K4 P x1 μ) : V p l e (rmN 2 42) s m args below meth c E 4 0 0 (MQ below (va_Qi P (wdP E) (eA E s.heap.size)) args s 0 0 (eA E s.heap.size)) 0 [(0, .ref (eAd E 7)), (1, .int x1)] [] μ := by
  unfold t_X4_startOfWord_0 at h
  refine v_iconst (v := (0 : Int32)) C dX4_startOfWord_0 (by decide) ?_
  refine v_istore_n C [(2, .int (0 : Int32)), (0, .ref (eAd E 7)), (1, .int x1)] rfl (by decide) rfl dX4_startOfWord_1 ?_
  refine v_iconst (v := (0 : Int32)) C dX4_startOfWord_2 (by decide) ?_
  refine v_istore_n C [(3, .int (0 : Int32)), (2, .int (0 : Int32)), (0, .ref (eAd E 7)), (1, .int x1)] rfl (by decide) rfl dX4_startOfWord_3 ?_
  refine v_sub C [2, 3, 1, 0] rfl ?_
  exact hK4 _ _ _ _ h
set_option maxRecDepth 10000 in
set_option maxHeartbeats 4000000 in
theorem so_X4_startOfWord {l : Launch} {E : EvT} (x1 : Int32) (μ : MemT) (P : Int32 → MemT → Prop) (h : sp_X4_startOfWord x1 μ P) : MCi l E yX4_startOfWord cX4_startOfWord 4 (some .int) (rmN 2 42) [.ref (eAd E 7), .int x1] μ P := by
  refine mc_entryi (by decide +kernel) (Nat.le_of_ble_eq_true rfl) (fun p e s m below meth c C hr => ?_)
  have h0 := h (fun x1_ x2_ x3_ μ => V p l e (rmN 2 42) s m ([.ref (eAd E 7), .int x1] : List Value).toArray below meth c E 4 0 0 (MQ below (va_Qi P (wdP E) (eA E s.heap.size)) ([.ref (eAd E 7), .int x1] : List Value).toArray s 0 0 (eA E s.heap.size)) 4 [(0, .ref (eAd E 7)), (1, .int x1_), (2, .int x2_), (3, .int x3_)] [] μ) (fun x1 x2 x3 μ ht => so_X4_startOfWord_4 C hr (fun x1 x2 x3 μ hk => hk) x1 x2 x3 μ ht) 
  exact so_X4_startOfWord_0 C hr (fun x1 x2 x3 μ hk => hk) x1 μ h0
set_option maxRecDepth 10000 in
set_option maxHeartbeats 4000000 in
theorem so_X4_endOfWord_2 {p : Program} {l : Launch} {e : Env} {s : State} {m : MethodId} {args : Array Value} {below : List Frame} {meth : Method} {c : Code} {E : EvT} {P : Int32 → MemT → Prop} (C : Cx p s m args meth c E cX4_endOfWord 3 RX4) (hr : meth.sig.returnType = (some .int)) {K2 : Int32 → Int32 → MemT → Prop} (hK2 : ∀ (x1 : Int32) (x2 : Int32) (μ : MemT), K2 x1 x2 μ → V p l e (rmN 1 21) s m args below meth c E 3 0 0 (MQ below (va_Qi P (wdP E) (eA E s.heap.size)) args s 0 0 (eA E s.heap.size)) 2 [(0, .ref (eAd E 7)), (1, .int x1), (2, .int x2)] [] μ) (x1 : Int32) (x2 : Int32) (μ : MemT) (h : t_X4_endOfWord_2 K2 P x1 x2 μ) : V p l e (rmN 1 21) s m args below meth c E 3 0 0 (MQ below (va_Qi P (wdP E) (eA E s.heap.size)) args s 0 0 (eA E s.heap.size)) 2 [(0, .ref (eAd E 7)), (1, .int x1), (2, .int x2)] [] μ := by
  unfold t_X4_endOfWord_2 at h
  refine v_iload_n C 2 rfl rfl dX4_endOfWord_2 ?_
  refine v_aload_n C 0 rfl rfl dX4_endOfWord_3 ?_
  refine gf_X4_9 C dX4_endOfWord_4 ?_
  refine v_icmp_ge C 24 (by decide) dX4_endOfWord_7 (fun q6 => ?_) (fun q6 => ?_)
  · replace h := h.1 q6
    refine v_iload_n C 2 rfl rfl dX4_endOfWord_24 ?_
    exact v_iret C hr h dX4_endOfWord_25
  · replace h := h.2 q6
    refine v_aload_n C 0 rfl rfl dX4_endOfWord_10 ?_
    refine v_iload_n C 2 rfl rfl dX4_endOfWord_11 ?_
    obtain ⟨P1, hs, h⟩ := h
    refine v_callVi C 7 [.int x2] (by decide) rfl rfl rfl (so_X4_isInWord x2 μ P1 hs) gw_X4_95 rfl rfl dd_X4_isInWord ⟨by decide, by decide⟩ rfl rfl (Nat.le_of_ble_eq_true rfl) ⟨by decide, by decide⟩ dX4_endOfWord_12 (fun r4 μ2 q3 => ?_)
    replace h := h r4 μ2 q3
    refine v_if_eq C 24 (by decide) dX4_endOfWord_15 (fun q5 => ?_) (fun q5 => ?_)
    · replace h := h.1 q5
      refine v_iload_n C 2 rfl rfl dX4_endOfWord_24 ?_
      exact v_iret C hr h dX4_endOfWord_25
    · replace h := h.2 q5
      refine v_iinc (v := (x2 + 1)) C 2 [(2, .int (x2 + 1)), (0, .ref (eAd E 7)), (1, .int x1)] rfl rfl (by decide) rfl dX4_endOfWord_18 ?_
      refine v_goto C 2 (by decide) dX4_endOfWord_21 ?_
      refine v_sub C [1, 2, 0] rfl ?_
      exact hK2 _ _ _ h
set_option maxRecDepth 10000 in
set_option maxHeartbeats 4000000 in
theorem so_X4_endOfWord_0 {p : Program} {l : Launch} {e : Env} {s : State} {m : MethodId} {args : Array Value} {below : List Frame} {meth : Method} {c : Code} {E : EvT} {P : Int32 → MemT → Prop} (C : Cx p s m args meth c E cX4_endOfWord 3 RX4) (hr : meth.sig.returnType = (some .int)) {K2 : Int32 → Int32 → MemT → Prop} (hK2 : ∀ (x1 : Int32) (x2 : Int32) (μ : MemT), K2 x1 x2 μ → V p l e (rmN 1 21) s m args below meth c E 3 0 0 (MQ below (va_Qi P (wdP E) (eA E s.heap.size)) args s 0 0 (eA E s.heap.size)) 2 [(0, .ref (eAd E 7)), (1, .int x1), (2, .int x2)] [] μ) (x1 : Int32) (μ : MemT) (h : t_X4_endOfWord_0 K2 P x1 μ) : V p l e (rmN 1 21) s m args below meth c E 3 0 0 (MQ below (va_Qi P (wdP E) (eA E s.heap.size)) args s 0 0 (eA E s.heap.size)) 0 [(0, .ref (eAd E 7)), (1, .int x1)] [] μ := by
  unfold t_X4_endOfWord_0 at h
  refine v_iload_n C 1 rfl rfl dX4_endOfWord_0 ?_
  refine v_istore_n C [(2, .int x1), (0, .ref (eAd E 7)), (1, .int x1)] rfl (by decide) rfl dX4_endOfWord_1 ?_
  refine v_sub C [1, 2, 0] rfl ?_
  exact hK2 _ _ _ h
set_option maxRecDepth 10000 in
set_option maxHeartbeats 4000000 in
theorem so_X4_endOfWord {l : Launch} {E : EvT} (x1 : Int32) (μ : MemT) (P : Int32 → MemT → Prop) (h : sp_X4_endOfWord x1 μ P) : MCi l E yX4_endOfWord cX4_endOfWord 3 (some .int) (rmN 1 21) [.ref (eAd E 7), .int x1] μ P := by
  refine mc_entryi (by decide +kernel) (Nat.le_of_ble_eq_true rfl) (fun p e s m below meth c C hr => ?_)
  have h0 := h (fun x1_ x2_ μ => V p l e (rmN 1 21) s m ([.ref (eAd E 7), .int x1] : List Value).toArray below meth c E 3 0 0 (MQ below (va_Qi P (wdP E) (eA E s.heap.size)) ([.ref (eAd E 7), .int x1] : List Value).toArray s 0 0 (eA E s.heap.size)) 2 [(0, .ref (eAd E 7)), (1, .int x1_), (2, .int x2_)] [] μ) (fun x1 x2 μ ht => so_X4_endOfWord_2 C hr (fun x1 x2 μ hk => hk) x1 x2 μ ht) 
  exact so_X4_endOfWord_0 C hr (fun x1 x2 μ hk => hk) x1 μ h0
set_option maxRecDepth 10000 in
set_option maxHeartbeats 4000000 in
theorem so_X5_seek_0 {p : Program} {l : Launch} {e : Env} {s : State} {m : MethodId} {args : Array Value} {below : List Frame} {meth : Method} {c : Code} {E : EvT} {P : Int32 → MemT → Prop} (C : Cx p s m args meth c E cX5_seek 2 RX5) (hr : meth.sig.returnType = (some .int)) (x1 : Int32) (μ : MemT) (h : t_X5_seek_0 P x1 μ) : V p l e (rmN 0 0) s m args below meth c E 2 0 0 (MQ below (va_Qi P (wdP E) (eA E s.heap.size)) args s 0 0 (eA E s.heap.size)) 0 [(0, .ref (eAd E 8)), (1, .int x1)] [] μ := by
  unfold t_X5_seek_0 at h
  refine v_aload_n C 0 rfl rfl dX5_seek_0 ?_
  refine gf_X5_9 C dX5_seek_1 ?_
  refine v_bipush (v := (20 : Int32)) C dX5_seek_4 (by decide) ?_
  refine v_icmp_ge C 29 (by decide) dX5_seek_6 (fun q4 => ?_) (fun q4 => ?_)
  · replace h := h.1 q4
    refine v_aload_n C 0 rfl rfl dX5_seek_29 ?_
    refine gf_X5_9 C dX5_seek_30 ?_
    exact v_iret C hr h dX5_seek_33
  · replace h := h.2 q4
    refine v_aload_n C 0 rfl rfl dX5_seek_9 ?_
    refine gf_X5_22 C dX5_seek_10 ?_
    refine v_aload_n C 0 rfl rfl dX5_seek_13 ?_
    refine gf_X5_9 C dX5_seek_14 ?_
    refine v_iload_n C 1 rfl rfl dX5_seek_17 ?_
    obtain ⟨b1, h⟩ := h
    refine v_iast C 44 (by decide) rfl b1 dX5_seek_18 ?_
    refine v_nmM (fun μ2 e_μ2 => ?_)
    replace h := h μ2 e_μ2
    refine v_aload_n C 0 rfl rfl dX5_seek_19 ?_
    refine v_dup C rfl dX5_seek_20 ?_
    refine gf_X5_9 C dX5_seek_21 ?_
    refine v_iconst (v := (1 : Int32)) C dX5_seek_24 (by decide) ?_
    refine v_iadd C dX5_seek_25 ?_
    refine pf_X5_9 C dX5_seek_26 ?_
    refine v_nmM (fun μ3 e_μ3 => ?_)
    replace h := h μ3 e_μ3
    refine v_aload_n C 0 rfl rfl dX5_seek_29 ?_
    refine gf_X5_9 C dX5_seek_30 ?_
    exact v_iret C hr h dX5_seek_33
set_option maxRecDepth 10000 in
set_option maxHeartbeats 4000000 in
theorem so_X5_seek {l : Launch} {E : EvT} (x1 : Int32) (μ : MemT) (P : Int32 → MemT → Prop) (h : sp_X5_seek x1 μ P) : MCi l E yX5_seek cX5_seek 2 (some .int) (rmN 0 0) [.ref (eAd E 8), .int x1] μ P := by
  refine mc_entryi (by decide +kernel) (Nat.le_of_ble_eq_true rfl) (fun p e s m below meth c C hr => ?_)
  exact so_X5_seek_0 C hr x1 μ h
set_option maxRecDepth 10000 in
set_option maxHeartbeats 4000000 in
theorem so_X5_plain_0 {p : Program} {l : Launch} {e : Env} {s : State} {m : MethodId} {args : Array Value} {below : List Frame} {meth : Method} {c : Code} {E : EvT} {P : Int32 → MemT → Prop} (C : Cx p s m args meth c E cX5_plain 2 RX5) (hr : meth.sig.returnType = (some .int)) (x1 : Int32) (μ : MemT) (h : t_X5_plain_0 P x1 μ) : V p l e (rmN 0 0) s m args below meth c E 2 0 0 (MQ below (va_Qi P (wdP E) (eA E s.heap.size)) args s 0 0 (eA E s.heap.size)) 0 [(0, .ref (eAd E 8)), (1, .int x1)] [] μ := by
  unfold t_X5_plain_0 at h
  refine v_iload_n C 1 rfl rfl dX5_plain_0 ?_
  refine v_bipush (v := (10 : Int32)) C dX5_plain_1 (by decide) ?_
  refine v_icmp_ne C 11 (by decide) dX5_plain_3 (fun q1 => ?_) (fun q1 => ?_)
  · replace h := h.1 q1
    refine v_iload_n C 1 rfl rfl dX5_plain_11 ?_
    exact v_iret C hr h dX5_plain_12
  · replace h := h.2 q1
    refine v_bipush (v := (32 : Int32)) C dX5_plain_6 (by decide) ?_
    refine v_goto C 12 (by decide) dX5_plain_8 ?_
    exact v_iret C hr h dX5_plain_12
set_option maxRecDepth 10000 in
set_option maxHeartbeats 4000000 in
theorem so_X5_plain {l : Launch} {E : EvT} (x1 : Int32) (μ : MemT) (P : Int32 → MemT → Prop) (h : sp_X5_plain x1 μ P) : MCi l E yX5_plain cX5_plain 2 (some .int) (rmN 0 0) [.ref (eAd E 8), .int x1] μ P := by
  refine mc_entryi (by decide +kernel) (Nat.le_of_ble_eq_true rfl) (fun p e s m below meth c C hr => ?_)
  exact so_X5_plain_0 C hr x1 μ h
set_option maxRecDepth 10000 in
set_option maxHeartbeats 4000000 in
theorem so_X5_isAt_2 {p : Program} {l : Launch} {e : Env} {s : State} {m : MethodId} {args : Array Value} {below : List Frame} {meth : Method} {c : Code} {E : EvT} {P : Int32 → MemT → Prop} (C : Cx p s m args meth c E cX5_isAt 4 RX5) (hr : meth.sig.returnType = (some .boolean)) {K2 : Int32 → Int32 → MemT → Prop} (hK2 : ∀ (x2 : Int32) (x3 : Int32) (μ : MemT), K2 x2 x3 μ → V p l e (rmN 1 21) s m args below meth c E 4 0 0 (MQ below (va_Qi P (wdP E) (eA E s.heap.size)) args s 0 0 (eA E s.heap.size)) 2 [(0, .ref (eAd E 8)), (1, .ref (eAd E 7)), (2, .int x2), (3, .int x3)] [] μ) (x2 : Int32) (x3 : Int32) (μ : MemT) (h : t_X5_isAt_2 K2 P x2 x3 μ) : V p l e (rmN 1 21) s m args below meth c E 4 0 0 (MQ below (va_Qi P (wdP E) (eA E s.heap.size)) args s 0 0 (eA E s.heap.size)) 2 [(0, .ref (eAd E 8)), (1, .ref (eAd E 7)), (2, .int x2), (3, .int x3)] [] μ := by
  unfold t_X5_isAt_2 at h
  refine v_iload_n C 3 rfl rfl dX5_isAt_2 ?_
  refine v_aload_n C 0 rfl rfl dX5_isAt_3 ?_
  refine gf_X5_9 C dX5_isAt_4 ?_
  refine v_icmp_ge C 43 (by decide) dX5_isAt_7 (fun q12 => ?_) (fun q12 => ?_)
  · replace h := h.1 q12
    refine v_iconst (v := (1 : Int32)) C dX5_isAt_43 (by decide) ?_
    exact v_zret C hr nb1 h dX5_isAt_44
  · replace h := h.2 q12
    refine v_aload_n C 0 rfl rfl dX5_isAt_10 ?_
    refine v_aload_n C 1 rfl rfl dX5_isAt_11 ?_
    refine gf_X5_34 C dX5_isAt_12 ?_
    refine v_iload_n C 2 rfl rfl dX5_isAt_15 ?_
    refine v_iload_n C 3 rfl rfl dX5_isAt_16 ?_
    refine v_iadd C dX5_isAt_17 ?_
    obtain ⟨b1, h⟩ := h
    refine v_iald C 39 (by decide) rfl b1 dX5_isAt_18 ?_
    obtain ⟨P2, hs, h⟩ := h
    refine v_callVi C 8 [.int (μ.1 39 (x2 + x3).toNatClampNeg)] (by decide) rfl rfl rfl (so_X5_plain (μ.1 39 (x2 + x3).toNatClampNeg) μ P2 hs) gw_X5_37 rfl rfl dd_X5_plain ⟨by decide, by decide⟩ rfl rfl (Nat.le_of_ble_eq_true rfl) ⟨by decide, by decide⟩ dX5_isAt_19 (fun r5 μ3 q4 => ?_)
    replace h := h r5 μ3 q4
    refine v_aload_n C 0 rfl rfl dX5_isAt_22 ?_
    refine v_aload_n C 0 rfl rfl dX5_isAt_23 ?_
    refine gf_X5_22 C dX5_isAt_24 ?_
    refine v_iload_n C 3 rfl rfl dX5_isAt_27 ?_
    obtain ⟨b6, h⟩ := h
    refine v_iald C 44 (by decide) rfl b6 dX5_isAt_28 ?_
    obtain ⟨P7, hs, h⟩ := h
    refine v_callVi C 8 [.int (μ3.1 44 x3.toNatClampNeg)] (by decide) rfl rfl rfl (so_X5_plain (μ3.1 44 x3.toNatClampNeg) μ3 P7 hs) gw_X5_37 rfl rfl dd_X5_plain ⟨by decide, by decide⟩ rfl rfl (Nat.le_of_ble_eq_true rfl) ⟨by decide, by decide⟩ dX5_isAt_29 (fun r10 μ8 q9 => ?_)
    replace h := h r10 μ8 q9
    refine v_icmp_eq C 37 (by decide) dX5_isAt_32 (fun q11 => ?_) (fun q11 => ?_)
    · replace h := h.1 q11
      refine v_iinc (v := (x3 + 1)) C 3 [(3, .int (x3 + 1)), (0, .ref (eAd E 8)), (1, .ref (eAd E 7)), (2, .int x2)] rfl rfl (by decide) rfl dX5_isAt_37 ?_
      refine v_goto C 2 (by decide) dX5_isAt_40 ?_
      refine v_sub C [1, 2, 3, 0] rfl ?_
      exact hK2 _ _ _ h
    · replace h := h.2 q11
      refine v_iconst (v := (0 : Int32)) C dX5_isAt_35 (by decide) ?_
      exact v_zret C hr nb0 h dX5_isAt_36
set_option maxRecDepth 10000 in
set_option maxHeartbeats 4000000 in
theorem so_X5_isAt_0 {p : Program} {l : Launch} {e : Env} {s : State} {m : MethodId} {args : Array Value} {below : List Frame} {meth : Method} {c : Code} {E : EvT} {P : Int32 → MemT → Prop} (C : Cx p s m args meth c E cX5_isAt 4 RX5) (hr : meth.sig.returnType = (some .boolean)) {K2 : Int32 → Int32 → MemT → Prop} (hK2 : ∀ (x2 : Int32) (x3 : Int32) (μ : MemT), K2 x2 x3 μ → V p l e (rmN 1 21) s m args below meth c E 4 0 0 (MQ below (va_Qi P (wdP E) (eA E s.heap.size)) args s 0 0 (eA E s.heap.size)) 2 [(0, .ref (eAd E 8)), (1, .ref (eAd E 7)), (2, .int x2), (3, .int x3)] [] μ) (x2 : Int32) (μ : MemT) (h : t_X5_isAt_0 K2 P x2 μ) : V p l e (rmN 1 21) s m args below meth c E 4 0 0 (MQ below (va_Qi P (wdP E) (eA E s.heap.size)) args s 0 0 (eA E s.heap.size)) 0 [(0, .ref (eAd E 8)), (1, .ref (eAd E 7)), (2, .int x2)] [] μ := by
  unfold t_X5_isAt_0 at h
  refine v_iconst (v := (0 : Int32)) C dX5_isAt_0 (by decide) ?_
  refine v_istore_n C [(3, .int (0 : Int32)), (0, .ref (eAd E 8)), (1, .ref (eAd E 7)), (2, .int x2)] rfl (by decide) rfl dX5_isAt_1 ?_
  refine v_sub C [1, 2, 3, 0] rfl ?_
  exact hK2 _ _ _ h
set_option maxRecDepth 10000 in
set_option maxHeartbeats 4000000 in
theorem so_X5_isAt {l : Launch} {E : EvT} (x2 : Int32) (μ : MemT) (P : Int32 → MemT → Prop) (h : sp_X5_isAt x2 μ P) : MCi l E yX5_isAt cX5_isAt 4 (some .boolean) (rmN 1 21) [.ref (eAd E 8), .ref (eAd E 7), .int x2] μ P := by
  refine mc_entryi (by decide +kernel) (Nat.le_of_ble_eq_true rfl) (fun p e s m below meth c C hr => ?_)
  have h0 := h (fun x2_ x3_ μ => V p l e (rmN 1 21) s m ([.ref (eAd E 8), .ref (eAd E 7), .int x2] : List Value).toArray below meth c E 4 0 0 (MQ below (va_Qi P (wdP E) (eA E s.heap.size)) ([.ref (eAd E 8), .ref (eAd E 7), .int x2] : List Value).toArray s 0 0 (eA E s.heap.size)) 2 [(0, .ref (eAd E 8)), (1, .ref (eAd E 7)), (2, .int x2_), (3, .int x3_)] [] μ) (fun x2 x3 μ ht => so_X5_isAt_2 C hr (fun x2 x3 μ hk => hk) x2 x3 μ ht) 
  exact so_X5_isAt_0 C hr (fun x2 x3 μ hk => hk) x2 μ h0
set_option maxRecDepth 10000 in
set_option maxHeartbeats 4000000 in
theorem so_X5_run_28 {p : Program} {l : Launch} {e : Env} {s : State} {m : MethodId} {args : Array Value} {below : List Frame} {meth : Method} {c : Code} {E : EvT} {P : Int32 → MemT → Prop} (C : Cx p s m args meth c E cX5_run 4 RX5) (hr : meth.sig.returnType = (some .int)) {K28 : Int32 → Int32 → MemT → Prop} (hK28 : ∀ (x2 : Int32) (x3 : Int32) (μ : MemT), K28 x2 x3 μ → V p l e (rmN 2 44) s m args below meth c E 4 0 0 (MQ below (va_Qi P (wdP E) (eA E s.heap.size)) args s 0 0 (eA E s.heap.size)) 28 [(0, .ref (eAd E 8)), (1, .ref (eAd E 7)), (2, .int x2), (3, .int x3)] [] μ) (x2 : Int32) (x3 : Int32) (μ : MemT) (h : t_X5_run_28 K28 P x2 x3 μ) : V p l e (rmN 2 44) s m args below meth c E 4 0 0 (MQ below (va_Qi P (wdP E) (eA E s.heap.size)) args s 0 0 (eA E s.heap.size)) 28 [(0, .ref (eAd E 8)), (1, .ref (eAd E 7)), (2, .int x2), (3, .int x3)] [] μ := by
  unfold t_X5_run_28 at h
  refine v_iload_n C 3 rfl rfl dX5_run_28 ?_
  refine v_iload_n C 2 rfl rfl dX5_run_29 ?_
  refine v_icmp_gt C 68 (by decide) dX5_run_30 (fun q10 => ?_) (fun q10 => ?_)
  · replace h := h.1 q10
    refine v_aload_n C 0 rfl rfl dX5_run_68 ?_
    refine v_iconst (v := (0 : Int32)) C dX5_run_69 (by decide) ?_
    refine pf_X5_9 C dX5_run_70 ?_
    refine v_nmM (fun μ1 e_μ1 => ?_)
    replace h := h μ1 e_μ1
    refine v_aload_n C 0 rfl rfl dX5_run_73 ?_
    refine gf_X5_15 C dX5_run_74 ?_
    exact v_iret C hr h dX5_run_77
  · replace h := h.2 q10
    refine v_aload_n C 0 rfl rfl dX5_run_33 ?_
    refine v_aload_n C 1 rfl rfl dX5_run_34 ?_
    refine v_iload_n C 3 rfl rfl dX5_run_35 ?_
    obtain ⟨P2, hs, h⟩ := h
    refine v_callVi C 8 [.ref (eAd E 7), .int x3] (by decide) rfl rfl rfl (so_X5_isAt x3 μ P2 hs) gw_X5_30 rfl rfl dd_X5_isAt ⟨by decide, by decide⟩ rfl rfl (Nat.le_of_ble_eq_true rfl) ⟨by decide, by decide⟩ dX5_run_36 (fun r5 μ3 q4 => ?_)
    replace h := h r5 μ3 q4
    refine v_if_eq C 62 (by decide) dX5_run_39 (fun q9 => ?_) (fun q9 => ?_)
    · replace h := h.1 q9
      refine v_iinc (v := (x3 + 1)) C 3 [(3, .int (x3 + 1)), (0, .ref (eAd E 8)), (1, .ref (eAd E 7)), (2, .int x2)] rfl rfl (by decide) rfl dX5_run_62 ?_
      refine v_goto C 28 (by decide) dX5_run_65 ?_
      refine v_sub C [1, 2, 3, 0] rfl ?_
      exact hK28 _ _ _ h
    · replace h := h.2 q9
      refine v_aload_n C 0 rfl rfl dX5_run_42 ?_
      refine gf_X5_18 C dX5_run_43 ?_
      refine v_aload_n C 0 rfl rfl dX5_run_46 ?_
      refine gf_X5_15 C dX5_run_47 ?_
      refine v_iload_n C 3 rfl rfl dX5_run_50 ?_
      obtain ⟨b6, h⟩ := h
      refine v_iast C 43 (by decide) rfl b6 dX5_run_51 ?_
      refine v_nmM (fun μ7 e_μ7 => ?_)
      replace h := h μ7 e_μ7
      refine v_aload_n C 0 rfl rfl dX5_run_52 ?_
      refine v_dup C rfl dX5_run_53 ?_
      refine gf_X5_15 C dX5_run_54 ?_
      refine v_iconst (v := (1 : Int32)) C dX5_run_57 (by decide) ?_
      refine v_iadd C dX5_run_58 ?_
      refine pf_X5_15 C dX5_run_59 ?_
      refine v_nmM (fun μ8 e_μ8 => ?_)
      replace h := h μ8 e_μ8
      refine v_iinc (v := (x3 + 1)) C 3 [(3, .int (x3 + 1)), (0, .ref (eAd E 8)), (1, .ref (eAd E 7)), (2, .int x2)] rfl rfl (by decide) rfl dX5_run_62 ?_
      refine v_goto C 28 (by decide) dX5_run_65 ?_
      refine v_sub C [1, 2, 3, 0] rfl ?_
      exact hK28 _ _ _ h
set_option maxRecDepth 10000 in
set_option maxHeartbeats 4000000 in
theorem so_X5_run_0 {p : Program} {l : Launch} {e : Env} {s : State} {m : MethodId} {args : Array Value} {below : List Frame} {meth : Method} {c : Code} {E : EvT} {P : Int32 → MemT → Prop} (C : Cx p s m args meth c E cX5_run 4 RX5) (hr : meth.sig.returnType = (some .int)) {K28 : Int32 → Int32 → MemT → Prop} (hK28 : ∀ (x2 : Int32) (x3 : Int32) (μ : MemT), K28 x2 x3 μ → V p l e (rmN 2 44) s m args below meth c E 4 0 0 (MQ below (va_Qi P (wdP E) (eA E s.heap.size)) args s 0 0 (eA E s.heap.size)) 28 [(0, .ref (eAd E 8)), (1, .ref (eAd E 7)), (2, .int x2), (3, .int x3)] [] μ) (μ : MemT) (h : t_X5_run_0 K28 P  μ) : V p l e (rmN 2 44) s m args below meth c E 4 0 0 (MQ below (va_Qi P (wdP E) (eA E s.heap.size)) args s 0 0 (eA E s.heap.size)) 0 [(0, .ref (eAd E 8)), (1, .ref (eAd E 7))] [] μ := by
  unfold t_X5_run_0 at h
  refine v_aload_n C 0 rfl rfl dX5_run_0 ?_
  refine v_iconst (v := (0 : Int32)) C dX5_run_1 (by decide) ?_
  refine pf_X5_15 C dX5_run_2 ?_
  refine v_nmM (fun μ1 e_μ1 => ?_)
  replace h := h μ1 e_μ1
  refine v_aload_n C 0 rfl rfl dX5_run_5 ?_
  refine gf_X5_9 C dX5_run_6 ?_
  refine v_if_ne C 16 (by decide) dX5_run_9 (fun q2 => ?_) (fun q2 => ?_)
  · replace h := h.1 q2
    refine v_aload_n C 1 rfl rfl dX5_run_16 ?_
    refine gf_X5_25 C dX5_run_17 ?_
    refine v_aload_n C 0 rfl rfl dX5_run_20 ?_
    refine gf_X5_9 C dX5_run_21 ?_
    refine v_isub C dX5_run_24 ?_
    refine v_istore_n C [(2, .int ((μ1.2.2.1 6) - (μ1.2.2.1 7))), (0, .ref (eAd E 8)), (1, .ref (eAd E 7))] rfl (by decide) rfl dX5_run_25 ?_
    refine v_iconst (v := (0 : Int32)) C dX5_run_26 (by decide) ?_
    refine v_istore_n C [(3, .int (0 : Int32)), (2, .int ((μ1.2.2.1 6) - (μ1.2.2.1 7))), (0, .ref (eAd E 8)), (1, .ref (eAd E 7))] rfl (by decide) rfl dX5_run_27 ?_
    refine v_sub C [2, 3, 1, 0] rfl ?_
    exact hK28 _ _ _ h
  · replace h := h.2 q2
    refine v_iconst (v := (-1 : Int32)) C dX5_run_12 (by decide) ?_
    refine v_goto C 25 (by decide) dX5_run_13 ?_
    refine v_istore_n C [(2, .int (-1 : Int32)), (0, .ref (eAd E 8)), (1, .ref (eAd E 7))] rfl (by decide) rfl dX5_run_25 ?_
    refine v_iconst (v := (0 : Int32)) C dX5_run_26 (by decide) ?_
    refine v_istore_n C [(3, .int (0 : Int32)), (2, .int (-1 : Int32)), (0, .ref (eAd E 8)), (1, .ref (eAd E 7))] rfl (by decide) rfl dX5_run_27 ?_
    refine v_sub C [2, 3, 1, 0] rfl ?_
    exact hK28 _ _ _ h
set_option maxRecDepth 10000 in
set_option maxHeartbeats 4000000 in
theorem so_X5_run {l : Launch} {E : EvT} (μ : MemT) (P : Int32 → MemT → Prop) (h : sp_X5_run  μ P) : MCi l E yX5_run cX5_run 4 (some .int) (rmN 2 44) [.ref (eAd E 8), .ref (eAd E 7)] μ P := by
  refine mc_entryi (by decide +kernel) (Nat.le_of_ble_eq_true rfl) (fun p e s m below meth c C hr => ?_)
  have h0 := h (fun x2_ x3_ μ => V p l e (rmN 2 44) s m ([.ref (eAd E 8), .ref (eAd E 7)] : List Value).toArray below meth c E 4 0 0 (MQ below (va_Qi P (wdP E) (eA E s.heap.size)) ([.ref (eAd E 8), .ref (eAd E 7)] : List Value).toArray s 0 0 (eA E s.heap.size)) 28 [(0, .ref (eAd E 8)), (1, .ref (eAd E 7)), (2, .int x2_), (3, .int x3_)] [] μ) (fun x2 x3 μ ht => so_X5_run_28 C hr (fun x2 x3 μ hk => hk) x2 x3 μ ht) 
  exact so_X5_run_0 C hr (fun x2 x3 μ hk => hk)  μ h0
set_option maxRecDepth 10000 in
set_option maxHeartbeats 4000000 in
theorem so_X6_gap_0 {p : Program} {l : Launch} {e : Env} {s : State} {m : MethodId} {args : Array Value} {below : List Frame} {meth : Method} {c : Code} {E : EvT} {P : Int64 → MemT → Prop} (C : Cx p s m args meth c E cX6_gap 5 RX6) (hr : meth.sig.returnType = (some .long)) (x3 : Int32) (x4 : Int32) (μ : MemT) (h : t_X6_gap_0 P x3 x4 μ) : V p l e (rmN 0 0) s m args below meth c E 5 0 0 (MQ below (va_Ql P (wdP E) (eA E s.heap.size)) args s 0 0 (eA E s.heap.size)) 0 [(0, .ref (eAd E 5)), (1, .ref (eAd E 1)), (2, .ref (eAd E 3)), (3, .int x3), (4, .int x4)] [] μ := by
  unfold t_X6_gap_0 at h
  refine v_aload_n C 2 rfl rfl dX6_gap_0 ?_
  refine gf_X6_70 C dX6_gap_1 ?_
  refine v_iload C 4 rfl dX6_gap_4 ?_
  obtain ⟨b1, h⟩ := h
  refine v_lald C 19 (by decide) rfl b1 dX6_gap_6 ?_
  refine v_aload_n C 2 rfl rfl dX6_gap_7 ?_
  refine gf_X6_70 C dX6_gap_8 ?_
  refine v_iload_n C 3 rfl rfl dX6_gap_11 ?_
  obtain ⟨b2, h⟩ := h
  refine v_lald C 19 (by decide) rfl b2 dX6_gap_12 ?_
  refine v_aload_n C 1 rfl rfl dX6_gap_13 ?_
  refine gf_X6_75 C dX6_gap_14 ?_
  refine v_iload_n C 3 rfl rfl dX6_gap_17 ?_
  obtain ⟨b3, h⟩ := h
  refine v_lald C 13 (by decide) rfl b3 dX6_gap_18 ?_
  refine v_ladd C dX6_gap_19 ?_
  refine v_lsub C dX6_gap_20 ?_
  exact v_lret C hr h dX6_gap_21
set_option maxRecDepth 10000 in
set_option maxHeartbeats 4000000 in
theorem so_X6_gap {l : Launch} {E : EvT} (x3 : Int32) (x4 : Int32) (μ : MemT) (P : Int64 → MemT → Prop) (h : sp_X6_gap x3 x4 μ P) : MCl l E yX6_gap cX6_gap 5 (some .long) (rmN 0 0) [.ref (eAd E 5), .ref (eAd E 1), .ref (eAd E 3), .int x3, .int x4] μ P := by
  refine mc_entryl (by decide +kernel) (Nat.le_of_ble_eq_true rfl) (fun p e s m below meth c C hr => ?_)
  exact so_X6_gap_0 C hr x3 x4 μ h
set_option maxRecDepth 10000 in
set_option maxHeartbeats 4000000 in
theorem so_X6_isCut_0 {p : Program} {l : Launch} {e : Env} {s : State} {m : MethodId} {args : Array Value} {below : List Frame} {meth : Method} {c : Code} {E : EvT} {P : Int32 → MemT → Prop} (C : Cx p s m args meth c E cX6_isCut 5 RX6) (hr : meth.sig.returnType = (some .boolean)) (x3 : Int32) (x4 : Int32) (μ : MemT) (h : t_X6_isCut_0 P x3 x4 μ) : V p l e (rmN 1 24) s m args below meth c E 5 0 0 (MQ below (va_Qi P (wdP E) (eA E s.heap.size)) args s 0 0 (eA E s.heap.size)) 0 [(0, .ref (eAd E 5)), (1, .ref (eAd E 1)), (2, .ref (eAd E 3)), (3, .int x3), (4, .int x4)] [] μ := by
  unfold t_X6_isCut_0 at h
  refine v_aload_n C 0 rfl rfl dX6_isCut_0 ?_
  refine v_aload_n C 1 rfl rfl dX6_isCut_1 ?_
  refine v_aload_n C 2 rfl rfl dX6_isCut_2 ?_
  refine v_iload_n C 3 rfl rfl dX6_isCut_3 ?_
  refine v_iload C 4 rfl dX6_isCut_4 ?_
  obtain ⟨P1, hs, h⟩ := h
  refine v_callVl C 5 [.ref (eAd E 1), .ref (eAd E 3), .int x3, .int x4] (by decide) rfl rfl rfl (so_X6_gap x3 x4 μ P1 hs) gw_X6_78 rfl rfl dd_X6_gap ⟨by decide, by decide⟩ rfl rfl (Nat.le_of_ble_eq_true rfl) ⟨by decide, by decide⟩ dX6_isCut_6 (fun r4 μ2 q3 => ?_)
  replace h := h r4 μ2 q3
  refine v_ldc2 C gc_X6_82 dX6_isCut_9 ?_
  refine v_aload_n C 1 rfl rfl dX6_isCut_12 ?_
  refine gf_X6_84 C dX6_isCut_13 ?_
  refine v_iload_n C 3 rfl rfl dX6_isCut_16 ?_
  obtain ⟨b5, h⟩ := h
  refine v_iald C 14 (by decide) rfl b5 dX6_isCut_17 ?_
  refine v_i2l C dX6_isCut_18 ?_
  refine v_lmul C dX6_isCut_19 ?_
  refine v_lcmp_lt C 28 (by decide) dX6_isCut_20 dX6_isCut_21 (fun q6 => ?_) (fun q6 => ?_)
  · replace h := h.1 q6
    refine v_iconst (v := (0 : Int32)) C dX6_isCut_28 (by decide) ?_
    exact v_zret C hr nb0 h dX6_isCut_29
  · replace h := h.2 q6
    refine v_iconst (v := (1 : Int32)) C dX6_isCut_24 (by decide) ?_
    refine v_goto C 29 (by decide) dX6_isCut_25 ?_
    exact v_zret C hr nb1 h dX6_isCut_29
set_option maxRecDepth 10000 in
set_option maxHeartbeats 4000000 in
theorem so_X6_isCut {l : Launch} {E : EvT} (x3 : Int32) (x4 : Int32) (μ : MemT) (P : Int32 → MemT → Prop) (h : sp_X6_isCut x3 x4 μ P) : MCi l E yX6_isCut cX6_isCut 5 (some .boolean) (rmN 1 24) [.ref (eAd E 5), .ref (eAd E 1), .ref (eAd E 3), .int x3, .int x4] μ P := by
  refine mc_entryi (by decide +kernel) (Nat.le_of_ble_eq_true rfl) (fun p e s m below meth c C hr => ?_)
  exact so_X6_isCut_0 C hr x3 x4 μ h
set_option maxRecDepth 10000 in
set_option maxHeartbeats 4000000 in
theorem so_X8_shareOf_0 {p : Program} {l : Launch} {e : Env} {s : State} {m : MethodId} {args : Array Value} {below : List Frame} {meth : Method} {c : Code} {E : EvT} {P : Int64 → MemT → Prop} (C : Cx p s m args meth c E cX8_shareOf 4 RX8) (hr : meth.sig.returnType = (some .long)) (x0 : Int64) (x2 : Int64) (μ : MemT) (h : t_X8_shareOf_0 P x0 x2 μ) : V p l e (rmN 0 0) s m args below meth c E 4 0 0 (MQ below (va_Ql P (wdP E) (eA E s.heap.size)) args s 0 0 (eA E s.heap.size)) 0 [(0, .long x0), (2, .long x2)] [] μ := by
  unfold t_X8_shareOf_0 at h
  refine v_lload_n C 1 rfl rfl dX8_shareOf_0 ?_
  refine v_lconst (v := (0 : Int64)) C dX8_shareOf_1 (by decide) ?_
  refine v_lcmp_ne C 10 (by decide) dX8_shareOf_2 dX8_shareOf_3 (fun q2 => ?_) (fun q2 => ?_)
  · replace h := h.1 q2
    refine v_ldc2 C gc_X8_240 dX8_shareOf_10 ?_
    refine v_lload_n C 0 rfl rfl dX8_shareOf_13 ?_
    refine v_lmul C dX8_shareOf_14 ?_
    refine v_lload_n C 1 rfl rfl dX8_shareOf_15 ?_
    obtain ⟨b1, h⟩ := h
    refine v_ldiv C b1 dX8_shareOf_16 ?_
    exact v_lret C hr h dX8_shareOf_17
  · replace h := h.2 q2
    refine v_lconst (v := (0 : Int64)) C dX8_shareOf_6 (by decide) ?_
    refine v_goto C 17 (by decide) dX8_shareOf_7 ?_
    exact v_lret C hr h dX8_shareOf_17
set_option maxRecDepth 10000 in
set_option maxHeartbeats 4000000 in
theorem so_X8_shareOf {l : Launch} {E : EvT} (x0 : Int64) (x2 : Int64) (μ : MemT) (P : Int64 → MemT → Prop) (h : sp_X8_shareOf x0 x2 μ P) : MCl l E yX8_shareOf cX8_shareOf 4 (some .long) (rmN 0 0) [.long x0, .long x2] μ P := by
  refine mc_entryl (by decide +kernel) (Nat.le_of_ble_eq_true rfl) (fun p e s m below meth c C hr => ?_)
  exact so_X8_shareOf_0 C hr x0 x2 μ h
set_option maxRecDepth 10000 in
set_option maxHeartbeats 4000000 in
theorem so_X6_isSpace_0 {p : Program} {l : Launch} {e : Env} {s : State} {m : MethodId} {args : Array Value} {below : List Frame} {meth : Method} {c : Code} {E : EvT} {P : Int32 → MemT → Prop} (C : Cx p s m args meth c E cX6_isSpace 7 RX6) (hr : meth.sig.returnType = (some .boolean)) (x3 : Int32) (x4 : Int32) (μ : MemT) (h : t_X6_isSpace_0 P x3 x4 μ) : V p l e (rmN 1 24) s m args below meth c E 7 0 0 (MQ below (va_Qi P (wdP E) (eA E s.heap.size)) args s 0 0 (eA E s.heap.size)) 0 [(0, .ref (eAd E 5)), (1, .ref (eAd E 1)), (2, .ref (eAd E 3)), (3, .int x3), (4, .int x4)] [] μ := by
  unfold t_X6_isSpace_0 at h
  refine v_aload_n C 0 rfl rfl dX6_isSpace_0 ?_
  refine v_aload_n C 1 rfl rfl dX6_isSpace_1 ?_
  refine v_aload_n C 2 rfl rfl dX6_isSpace_2 ?_
  refine v_iload_n C 3 rfl rfl dX6_isSpace_3 ?_
  refine v_iload C 4 rfl dX6_isSpace_4 ?_
  obtain ⟨P1, hs, h⟩ := h
  refine v_callVl C 5 [.ref (eAd E 1), .ref (eAd E 3), .int x3, .int x4] (by decide) rfl rfl rfl (so_X6_gap x3 x4 μ P1 hs) gw_X6_78 rfl rfl dd_X6_gap ⟨by decide, by decide⟩ rfl rfl (Nat.le_of_ble_eq_true rfl) ⟨by decide, by decide⟩ dX6_isSpace_6 (fun r4 μ2 q3 => ?_)
  replace h := h r4 μ2 q3
  refine v_lstore C [(5, .long r4), (0, .ref (eAd E 5)), (1, .ref (eAd E 1)), (2, .ref (eAd E 3)), (3, .int x3), (4, .int x4)] (by decide) rfl dX6_isSpace_9 ?_
  refine v_lload C 0 rfl dX6_isSpace_11 ?_
  refine v_lconst (v := (0 : Int64)) C dX6_isSpace_13 (by decide) ?_
  refine v_lcmp_le C 51 (by decide) dX6_isSpace_14 dX6_isSpace_15 (fun q13 => ?_) (fun q13 => ?_)
  · replace h := h.1 q13
    refine v_iconst (v := (0 : Int32)) C dX6_isSpace_51 (by decide) ?_
    exact v_zret C hr nb0 h dX6_isSpace_52
  · replace h := h.2 q13
    refine v_aload_n C 2 rfl rfl dX6_isSpace_18 ?_
    refine gf_X6_75 C dX6_isSpace_19 ?_
    refine v_iload_n C 4 rfl rfl dX6_isSpace_22 ?_
    obtain ⟨b5, h⟩ := h
    refine v_lald C 13 (by decide) rfl b5 dX6_isSpace_23 ?_
    refine v_lconst (v := (0 : Int64)) C dX6_isSpace_24 (by decide) ?_
    refine v_lcmp_le C 51 (by decide) dX6_isSpace_25 dX6_isSpace_26 (fun q12 => ?_) (fun q12 => ?_)
    · replace h := h.1 q12
      refine v_iconst (v := (0 : Int32)) C dX6_isSpace_51 (by decide) ?_
      exact v_zret C hr nb0 h dX6_isSpace_52
    · replace h := h.2 q12
      refine v_lload C 0 rfl dX6_isSpace_29 ?_
      refine v_aload_n C 2 rfl rfl dX6_isSpace_31 ?_
      refine gf_X6_75 C dX6_isSpace_32 ?_
      refine v_iload_n C 4 rfl rfl dX6_isSpace_35 ?_
      obtain ⟨b6, h⟩ := h
      refine v_lald C 13 (by decide) rfl b6 dX6_isSpace_36 ?_
      obtain ⟨P7, hs, h⟩ := h
      refine v_callNl C [.long r4, .long (μ2.2.1 13 x3.toNatClampNeg)] (so_X8_shareOf r4 (μ2.2.1 13 x3.toNatClampNeg) μ2 P7 hs) rfl gn_X6_85 gn_ini gn_sta rfl rfl dd_X8_shareOf.2 ⟨by decide, by decide⟩ rfl rfl (Nat.le_of_ble_eq_true rfl) ⟨by decide, by decide⟩ dX6_isSpace_37 (fun r10 μ8 q9 => ?_)
      replace h := h r10 μ8 q9
      refine v_ldc2 C gc_X6_89 dX6_isSpace_40 ?_
      refine v_lcmp_lt C 51 (by decide) dX6_isSpace_43 dX6_isSpace_44 (fun q11 => ?_) (fun q11 => ?_)
      · replace h := h.1 q11
        refine v_iconst (v := (0 : Int32)) C dX6_isSpace_51 (by decide) ?_
        exact v_zret C hr nb0 h dX6_isSpace_52
      · replace h := h.2 q11
        refine v_iconst (v := (1 : Int32)) C dX6_isSpace_47 (by decide) ?_
        refine v_goto C 52 (by decide) dX6_isSpace_48 ?_
        exact v_zret C hr nb1 h dX6_isSpace_52
set_option maxRecDepth 10000 in
set_option maxHeartbeats 4000000 in
theorem so_X6_isSpace {l : Launch} {E : EvT} (x3 : Int32) (x4 : Int32) (μ : MemT) (P : Int32 → MemT → Prop) (h : sp_X6_isSpace x3 x4 μ P) : MCi l E yX6_isSpace cX6_isSpace 7 (some .boolean) (rmN 1 24) [.ref (eAd E 5), .ref (eAd E 1), .ref (eAd E 3), .int x3, .int x4] μ P := by
  refine mc_entryi (by decide +kernel) (Nat.le_of_ble_eq_true rfl) (fun p e s m below meth c C hr => ?_)
  exact so_X6_isSpace_0 C hr x3 x4 μ h
set_option maxRecDepth 10000 in
set_option maxHeartbeats 4000000 in
theorem so_X6_open_0 {p : Program} {l : Launch} {e : Env} {s : State} {m : MethodId} {args : Array Value} {below : List Frame} {meth : Method} {c : Code} {E : EvT} {P : MemT → Prop} (C : Cx p s m args meth c E cX6_open 5 RX6) (hr : meth.sig.returnType = none) (x3 : Int32) (μ : MemT) (h : t_X6_open_0 P x3 μ) : V p l e (rmN 0 0) s m args below meth c E 5 0 0 (MQ below (va_Qv P (wdP E) (eA E s.heap.size)) args s 0 0 (eA E s.heap.size)) 0 [(0, .ref (eAd E 5)), (1, .ref (eAd E 1)), (2, .ref (eAd E 3)), (3, .int x3)] [] μ := by
  unfold t_X6_open_0 at h
  refine v_aload_n C 0 rfl rfl dX6_open_0 ?_
  refine gf_X6_9 C dX6_open_1 ?_
  refine v_sipush (v := (200 : Int32)) C dX6_open_4 (by decide) ?_
  refine v_icmp_lt C 11 (by decide) dX6_open_7 (fun q24 => ?_) (fun q24 => ?_)
  · replace h := h.1 q24
    refine v_aload_n C 0 rfl rfl dX6_open_11 ?_
    refine gf_X6_9 C dX6_open_12 ?_
    refine v_istore C [(4, .int (μ.2.2.1 4)), (0, .ref (eAd E 5)), (1, .ref (eAd E 1)), (2, .ref (eAd E 3)), (3, .int x3)] (by decide) rfl dX6_open_15 ?_
    refine v_aload_n C 1 rfl rfl dX6_open_17 ?_
    refine gf_X6_23 C dX6_open_18 ?_
    refine v_iload C 0 rfl dX6_open_21 ?_
    refine v_aload_n C 2 rfl rfl dX6_open_23 ?_
    refine gf_X6_91 C dX6_open_24 ?_
    refine v_iload_n C 4 rfl rfl dX6_open_27 ?_
    obtain ⟨b1, h⟩ := h
    refine v_zald C 15 (by decide) rfl b1 dX6_open_28 ?_
    obtain ⟨b2, h⟩ := h
    refine v_zast C 29 (by decide) rfl b2 dX6_open_29 ?_
    refine v_nmM (fun μ3 e_μ3 => ?_)
    replace h := h μ3 e_μ3
    refine v_aload_n C 1 rfl rfl dX6_open_30 ?_
    refine gf_X6_26 C dX6_open_31 ?_
    refine v_iload C 0 rfl dX6_open_34 ?_
    refine v_aload_n C 3 rfl rfl dX6_open_36 ?_
    refine gf_X6_70 C dX6_open_37 ?_
    refine v_iload_n C 4 rfl rfl dX6_open_40 ?_
    obtain ⟨b4, h⟩ := h
    refine v_lald C 19 (by decide) rfl b4 dX6_open_41 ?_
    obtain ⟨b5, h⟩ := h
    refine v_last C 30 (by decide) rfl b5 dX6_open_42 ?_
    refine v_nmM (fun μ6 e_μ6 => ?_)
    replace h := h μ6 e_μ6
    refine v_aload_n C 1 rfl rfl dX6_open_43 ?_
    refine gf_X6_30 C dX6_open_44 ?_
    refine v_iload C 0 rfl dX6_open_47 ?_
    refine v_aload_n C 3 rfl rfl dX6_open_49 ?_
    refine gf_X6_70 C dX6_open_50 ?_
    refine v_iload_n C 4 rfl rfl dX6_open_53 ?_
    obtain ⟨b7, h⟩ := h
    refine v_lald C 19 (by decide) rfl b7 dX6_open_54 ?_
    refine v_aload_n C 2 rfl rfl dX6_open_55 ?_
    refine gf_X6_75 C dX6_open_56 ?_
    refine v_iload_n C 4 rfl rfl dX6_open_59 ?_
    obtain ⟨b8, h⟩ := h
    refine v_lald C 13 (by decide) rfl b8 dX6_open_60 ?_
    refine v_ladd C dX6_open_61 ?_
    obtain ⟨b9, h⟩ := h
    refine v_last C 31 (by decide) rfl b9 dX6_open_62 ?_
    refine v_nmM (fun μ10 e_μ10 => ?_)
    replace h := h μ10 e_μ10
    refine v_aload_n C 1 rfl rfl dX6_open_63 ?_
    refine gf_X6_33 C dX6_open_64 ?_
    refine v_iload C 0 rfl dX6_open_67 ?_
    refine v_aload_n C 3 rfl rfl dX6_open_69 ?_
    refine gf_X6_92 C dX6_open_70 ?_
    refine v_iload_n C 4 rfl rfl dX6_open_73 ?_
    obtain ⟨b11, h⟩ := h
    refine v_lald C 20 (by decide) rfl b11 dX6_open_74 ?_
    refine v_aload_n C 2 rfl rfl dX6_open_75 ?_
    refine gf_X6_84 C dX6_open_76 ?_
    refine v_iload_n C 4 rfl rfl dX6_open_79 ?_
    obtain ⟨b12, h⟩ := h
    refine v_iald C 14 (by decide) rfl b12 dX6_open_80 ?_
    refine v_i2l C dX6_open_81 ?_
    refine v_ladd C dX6_open_82 ?_
    refine v_lneg C dX6_open_83 ?_
    obtain ⟨b13, h⟩ := h
    refine v_last C 32 (by decide) rfl b13 dX6_open_84 ?_
    refine v_nmM (fun μ14 e_μ14 => ?_)
    replace h := h μ14 e_μ14
    refine v_aload_n C 1 rfl rfl dX6_open_85 ?_
    refine gf_X6_36 C dX6_open_86 ?_
    refine v_iload C 0 rfl dX6_open_89 ?_
    refine v_aload_n C 3 rfl rfl dX6_open_91 ?_
    refine gf_X6_92 C dX6_open_92 ?_
    refine v_iload_n C 4 rfl rfl dX6_open_95 ?_
    obtain ⟨b15, h⟩ := h
    refine v_lald C 20 (by decide) rfl b15 dX6_open_96 ?_
    refine v_lneg C dX6_open_97 ?_
    obtain ⟨b16, h⟩ := h
    refine v_last C 33 (by decide) rfl b16 dX6_open_98 ?_
    refine v_nmM (fun μ17 e_μ17 => ?_)
    replace h := h μ17 e_μ17
    refine v_aload_n C 1 rfl rfl dX6_open_99 ?_
    refine gf_X6_39 C dX6_open_100 ?_
    refine v_iload C 0 rfl dX6_open_103 ?_
    refine v_aload_n C 2 rfl rfl dX6_open_105 ?_
    refine gf_X6_84 C dX6_open_106 ?_
    refine v_iload_n C 4 rfl rfl dX6_open_109 ?_
    obtain ⟨b18, h⟩ := h
    refine v_iald C 14 (by decide) rfl b18 dX6_open_110 ?_
    obtain ⟨b19, h⟩ := h
    refine v_iast C 34 (by decide) rfl b19 dX6_open_111 ?_
    refine v_nmM (fun μ20 e_μ20 => ?_)
    replace h := h μ20 e_μ20
    refine v_aload_n C 1 rfl rfl dX6_open_112 ?_
    refine gf_X6_15 C dX6_open_113 ?_
    refine v_iload_n C 4 rfl rfl dX6_open_116 ?_
    refine v_iload C 0 rfl dX6_open_117 ?_
    obtain ⟨b21, h⟩ := h
    refine v_iast C 27 (by decide) rfl b21 dX6_open_119 ?_
    refine v_nmM (fun μ22 e_μ22 => ?_)
    replace h := h μ22 e_μ22
    refine v_aload_n C 1 rfl rfl dX6_open_120 ?_
    refine v_iload C 0 rfl dX6_open_121 ?_
    refine v_iconst (v := (1 : Int32)) C dX6_open_123 (by decide) ?_
    refine v_iadd C dX6_open_124 ?_
    refine pf_X6_9 C dX6_open_125 ?_
    refine v_nmM (fun μ23 e_μ23 => ?_)
    replace h := h μ23 e_μ23
    exact v_vret C hr h dX6_open_128
  · replace h := h.2 q24
    exact v_vret C hr h dX6_open_10
set_option maxRecDepth 10000 in
set_option maxHeartbeats 4000000 in
theorem so_X6_open {l : Launch} {E : EvT} (x3 : Int32) (μ : MemT) (P : MemT → Prop) (h : sp_X6_open x3 μ P) : MCv l E yX6_open cX6_open 5 none (rmN 0 0) [.ref (eAd E 5), .ref (eAd E 1), .ref (eAd E 3), .int x3] μ P := by
  refine mc_entryv (by decide +kernel) (Nat.le_of_ble_eq_true rfl) (fun p e s m below meth c C hr => ?_)
  exact so_X6_open_0 C hr x3 μ h
set_option maxRecDepth 10000 in
set_option maxHeartbeats 4000000 in
theorem so_X6_widen_0 {p : Program} {l : Launch} {e : Env} {s : State} {m : MethodId} {args : Array Value} {below : List Frame} {meth : Method} {c : Code} {E : EvT} {P : MemT → Prop} (C : Cx p s m args meth c E cX6_widen 5 RX6) (hr : meth.sig.returnType = none) (x3 : Int32) (μ : MemT) (h : t_X6_widen_0 P x3 μ) : V p l e (rmN 1 24) s m args below meth c E 5 0 0 (MQ below (va_Qv P (wdP E) (eA E s.heap.size)) args s 0 0 (eA E s.heap.size)) 0 [(0, .ref (eAd E 5)), (1, .ref (eAd E 1)), (2, .ref (eAd E 3)), (3, .int x3)] [] μ := by
  unfold t_X6_widen_0 at h
  refine v_aload_n C 0 rfl rfl dX6_widen_0 ?_
  refine gf_X6_9 C dX6_widen_1 ?_
  refine v_iconst (v := (1 : Int32)) C dX6_widen_4 (by decide) ?_
  refine v_isub C dX6_widen_5 ?_
  refine v_istore C [(4, .int ((μ.2.2.1 4) - (1 : Int32))), (0, .ref (eAd E 5)), (1, .ref (eAd E 1)), (2, .ref (eAd E 3)), (3, .int x3)] (by decide) rfl dX6_widen_6 ?_
  refine v_iload C 0 rfl dX6_widen_8 ?_
  refine v_if_ge C 14 (by decide) dX6_widen_10 (fun q21 => ?_) (fun q21 => ?_)
  · replace h := h.1 q21
    refine v_aload_n C 1 rfl rfl dX6_widen_14 ?_
    refine gf_X6_30 C dX6_widen_15 ?_
    refine v_iload C 0 rfl dX6_widen_18 ?_
    refine v_aload_n C 1 rfl rfl dX6_widen_20 ?_
    refine gf_X6_30 C dX6_widen_21 ?_
    refine v_iload C 0 rfl dX6_widen_24 ?_
    obtain ⟨b1, h⟩ := h
    refine v_lald C 31 (by decide) rfl b1 dX6_widen_26 ?_
    refine v_aload_n C 3 rfl rfl dX6_widen_27 ?_
    refine gf_X6_70 C dX6_widen_28 ?_
    refine v_iload_n C 4 rfl rfl dX6_widen_31 ?_
    obtain ⟨b2, h⟩ := h
    refine v_lald C 19 (by decide) rfl b2 dX6_widen_32 ?_
    refine v_aload_n C 2 rfl rfl dX6_widen_33 ?_
    refine gf_X6_75 C dX6_widen_34 ?_
    refine v_iload_n C 4 rfl rfl dX6_widen_37 ?_
    obtain ⟨b3, h⟩ := h
    refine v_lald C 13 (by decide) rfl b3 dX6_widen_38 ?_
    refine v_ladd C dX6_widen_39 ?_
    refine v_maxL C gl_X6_95 (by decide) (Nat.le_of_ble_eq_true rfl) (by decide) (by decide) gm_max_long dX6_widen_40 ?_
    obtain ⟨b4, h⟩ := h
    refine v_last C 31 (by decide) rfl b4 dX6_widen_43 ?_
    refine v_nmM (fun μ5 e_μ5 => ?_)
    replace h := h μ5 e_μ5
    refine v_aload_n C 1 rfl rfl dX6_widen_44 ?_
    refine gf_X6_33 C dX6_widen_45 ?_
    refine v_iload C 0 rfl dX6_widen_48 ?_
    refine v_aload_n C 1 rfl rfl dX6_widen_50 ?_
    refine gf_X6_33 C dX6_widen_51 ?_
    refine v_iload C 0 rfl dX6_widen_54 ?_
    obtain ⟨b6, h⟩ := h
    refine v_lald C 32 (by decide) rfl b6 dX6_widen_56 ?_
    refine v_aload_n C 3 rfl rfl dX6_widen_57 ?_
    refine gf_X6_92 C dX6_widen_58 ?_
    refine v_iload_n C 4 rfl rfl dX6_widen_61 ?_
    obtain ⟨b7, h⟩ := h
    refine v_lald C 20 (by decide) rfl b7 dX6_widen_62 ?_
    refine v_aload_n C 2 rfl rfl dX6_widen_63 ?_
    refine gf_X6_84 C dX6_widen_64 ?_
    refine v_iload_n C 4 rfl rfl dX6_widen_67 ?_
    obtain ⟨b8, h⟩ := h
    refine v_iald C 14 (by decide) rfl b8 dX6_widen_68 ?_
    refine v_i2l C dX6_widen_69 ?_
    refine v_ladd C dX6_widen_70 ?_
    refine v_lneg C dX6_widen_71 ?_
    refine v_minL C gl_X6_100 (by decide) (Nat.le_of_ble_eq_true rfl) (by decide) (by decide) gm_min_long dX6_widen_72 ?_
    obtain ⟨b9, h⟩ := h
    refine v_last C 32 (by decide) rfl b9 dX6_widen_75 ?_
    refine v_nmM (fun μ10 e_μ10 => ?_)
    replace h := h μ10 e_μ10
    refine v_aload_n C 1 rfl rfl dX6_widen_76 ?_
    refine gf_X6_36 C dX6_widen_77 ?_
    refine v_iload C 0 rfl dX6_widen_80 ?_
    refine v_aload_n C 1 rfl rfl dX6_widen_82 ?_
    refine gf_X6_36 C dX6_widen_83 ?_
    refine v_iload C 0 rfl dX6_widen_86 ?_
    obtain ⟨b11, h⟩ := h
    refine v_lald C 33 (by decide) rfl b11 dX6_widen_88 ?_
    refine v_aload_n C 3 rfl rfl dX6_widen_89 ?_
    refine gf_X6_92 C dX6_widen_90 ?_
    refine v_iload_n C 4 rfl rfl dX6_widen_93 ?_
    obtain ⟨b12, h⟩ := h
    refine v_lald C 20 (by decide) rfl b12 dX6_widen_94 ?_
    refine v_lneg C dX6_widen_95 ?_
    refine v_maxL C gl_X6_95 (by decide) (Nat.le_of_ble_eq_true rfl) (by decide) (by decide) gm_max_long dX6_widen_96 ?_
    obtain ⟨b13, h⟩ := h
    refine v_last C 33 (by decide) rfl b13 dX6_widen_99 ?_
    refine v_nmM (fun μ14 e_μ14 => ?_)
    replace h := h μ14 e_μ14
    refine v_aload_n C 1 rfl rfl dX6_widen_100 ?_
    refine gf_X6_39 C dX6_widen_101 ?_
    refine v_iload C 0 rfl dX6_widen_104 ?_
    refine v_aload_n C 1 rfl rfl dX6_widen_106 ?_
    refine gf_X6_39 C dX6_widen_107 ?_
    refine v_iload C 0 rfl dX6_widen_110 ?_
    obtain ⟨b15, h⟩ := h
    refine v_iald C 34 (by decide) rfl b15 dX6_widen_112 ?_
    refine v_aload_n C 2 rfl rfl dX6_widen_113 ?_
    refine gf_X6_84 C dX6_widen_114 ?_
    refine v_iload_n C 4 rfl rfl dX6_widen_117 ?_
    obtain ⟨b16, h⟩ := h
    refine v_iald C 14 (by decide) rfl b16 dX6_widen_118 ?_
    refine v_maxI C gl_X6_103 (by decide) (Nat.le_of_ble_eq_true rfl) (by decide) (by decide) gm_max_int dX6_widen_119 ?_
    obtain ⟨b17, h⟩ := h
    refine v_iast C 34 (by decide) rfl b17 dX6_widen_122 ?_
    refine v_nmM (fun μ18 e_μ18 => ?_)
    replace h := h μ18 e_μ18
    refine v_aload_n C 1 rfl rfl dX6_widen_123 ?_
    refine gf_X6_15 C dX6_widen_124 ?_
    refine v_iload_n C 4 rfl rfl dX6_widen_127 ?_
    refine v_iload C 0 rfl dX6_widen_128 ?_
    obtain ⟨b19, h⟩ := h
    refine v_iast C 27 (by decide) rfl b19 dX6_widen_130 ?_
    refine v_nmM (fun μ20 e_μ20 => ?_)
    replace h := h μ20 e_μ20
    exact v_vret C hr h dX6_widen_131
  · replace h := h.2 q21
    exact v_vret C hr h dX6_widen_13
set_option maxRecDepth 10000 in
set_option maxHeartbeats 4000000 in
theorem so_X6_widen {l : Launch} {E : EvT} (x3 : Int32) (μ : MemT) (P : MemT → Prop) (h : sp_X6_widen x3 μ P) : MCv l E yX6_widen cX6_widen 5 none (rmN 1 24) [.ref (eAd E 5), .ref (eAd E 1), .ref (eAd E 3), .int x3] μ P := by
  refine mc_entryv (by decide +kernel) (Nat.le_of_ble_eq_true rfl) (fun p e s m below meth c C hr => ?_)
  exact so_X6_widen_0 C hr x3 μ h
set_option maxRecDepth 10000 in
set_option maxHeartbeats 4000000 in
theorem so_X6_cut_143 {p : Program} {l : Launch} {e : Env} {s : State} {m : MethodId} {args : Array Value} {below : List Frame} {meth : Method} {c : Code} {E : EvT} {P : MemT → Prop} (C : Cx p s m args meth c E cX6_cut 7 RX6) (hr : meth.sig.returnType = none) {K8 : Int32 → MemT → Prop} (hK8 : ∀ (x4 : Int32) (μ : MemT), K8 x4 μ → V p l e (rmN 2 50) s m args below meth c E 7 0 0 (MQ below (va_Qv P (wdP E) (eA E s.heap.size)) args s 0 0 (eA E s.heap.size)) 8 [(0, .ref (eAd E 5)), (1, .ref (eAd E 1)), (2, .ref (eAd E 3)), (3, .ref (eAd E 4)), (4, .int x4)] [] μ) {K42 : Int32 → MemT → Prop} (hK42 : ∀ (x4 : Int32) (μ : MemT), K42 x4 μ → V p l e (rmN 2 50) s m args below meth c E 7 0 0 (MQ below (va_Qv P (wdP E) (eA E s.heap.size)) args s 0 0 (eA E s.heap.size)) 42 [(0, .ref (eAd E 5)), (1, .ref (eAd E 1)), (2, .ref (eAd E 3)), (3, .ref (eAd E 4)), (4, .int x4)] [] μ) (x4 : Int32) (x5 : Int32) (x6 : Int32) (μ : MemT) (h : t_X6_cut_143 K8 K42 P x4 x5 x6 μ) : V p l e (rmN 2 50) s m args below meth c E 7 0 0 (MQ below (va_Qv P (wdP E) (eA E s.heap.size)) args s 0 0 (eA E s.heap.size)) 143 [(0, .ref (eAd E 5)), (1, .ref (eAd E 1)), (2, .ref (eAd E 3)), (3, .ref (eAd E 4)), (4, .int x4), (5, .int x5), (6, .int x6)] [] μ := by
  unfold t_X6_cut_143 at h
  refine v_aload_n C 0 rfl rfl dX6_cut_143 ?_
  refine v_aload_n C 1 rfl rfl dX6_cut_144 ?_
  refine v_aload_n C 2 rfl rfl dX6_cut_145 ?_
  refine v_iload C 5 rfl dX6_cut_146 ?_
  obtain ⟨P1, hs, h⟩ := h
  refine v_callVv C 5 [.ref (eAd E 1), .ref (eAd E 3), .int x5] (by decide) rfl rfl rfl (so_X6_open x5 μ P1 hs) gw_X6_67 rfl rfl dd_X6_open ⟨by decide, by decide⟩ rfl rfl (Nat.le_of_ble_eq_true rfl) ⟨by decide, by decide⟩ dX6_cut_148 (fun μ2 q3 => ?_)
  replace h := h μ2 q3
  refine v_iinc (v := (x4 + 1)) C 4 [(4, .int (x4 + 1)), (0, .ref (eAd E 5)), (1, .ref (eAd E 1)), (2, .ref (eAd E 3)), (3, .ref (eAd E 4)), (5, .int x5), (6, .int x6)] rfl rfl (by decide) rfl dX6_cut_151 ?_
  refine v_goto C 42 (by decide) dX6_cut_154 ?_
  refine v_sub C [1, 2, 3, 4, 0] rfl ?_
  exact hK42 _ _ h
set_option maxRecDepth 10000 in
set_option maxHeartbeats 4000000 in
theorem so_X6_cut_78 {p : Program} {l : Launch} {e : Env} {s : State} {m : MethodId} {args : Array Value} {below : List Frame} {meth : Method} {c : Code} {E : EvT} {P : MemT → Prop} (C : Cx p s m args meth c E cX6_cut 7 RX6) (hr : meth.sig.returnType = none) {K8 : Int32 → MemT → Prop} (hK8 : ∀ (x4 : Int32) (μ : MemT), K8 x4 μ → V p l e (rmN 2 50) s m args below meth c E 7 0 0 (MQ below (va_Qv P (wdP E) (eA E s.heap.size)) args s 0 0 (eA E s.heap.size)) 8 [(0, .ref (eAd E 5)), (1, .ref (eAd E 1)), (2, .ref (eAd E 3)), (3, .ref (eAd E 4)), (4, .int x4)] [] μ) {K42 : Int32 → MemT → Prop} (hK42 : ∀ (x4 : Int32) (μ : MemT), K42 x4 μ → V p l e (rmN 2 50) s m args below meth c E 7 0 0 (MQ below (va_Qv P (wdP E) (eA E s.heap.size)) args s 0 0 (eA E s.heap.size)) 42 [(0, .ref (eAd E 5)), (1, .ref (eAd E 1)), (2, .ref (eAd E 3)), (3, .ref (eAd E 4)), (4, .int x4)] [] μ) (x4 : Int32) (x5 : Int32) (y0 : Int32) (μ : MemT) (h : t_X6_cut_78 K8 K42 P x4 x5 y0 μ) : V p l e (rmN 2 50) s m args below meth c E 7 0 0 (MQ below (va_Qv P (wdP E) (eA E s.heap.size)) args s 0 0 (eA E s.heap.size)) 78 [(0, .ref (eAd E 5)), (1, .ref (eAd E 1)), (2, .ref (eAd E 3)), (3, .ref (eAd E 4)), (4, .int x4), (5, .int x5)] [.int y0] μ := by
  unfold t_X6_cut_78 at h
  refine v_istore C [(6, .int y0), (0, .ref (eAd E 5)), (1, .ref (eAd E 1)), (2, .ref (eAd E 3)), (3, .ref (eAd E 4)), (4, .int x4), (5, .int x5)] (by decide) rfl dX6_cut_78 ?_
  refine v_iload C 0 rfl dX6_cut_80 ?_
  refine v_if_lt C 143 (by decide) dX6_cut_82 (fun q18 => ?_) (fun q18 => ?_)
  · replace h := h.1 q18
    refine v_sub C [1, 2, 3, 4, 5, 6, 0] rfl ?_
    exact so_X6_cut_143 C hr hK8 hK42 _ _ _ _ h
  · replace h := h.2 q18
    refine v_aload_n C 4 rfl rfl dX6_cut_85 ?_
    refine gf_X6_53 C dX6_cut_86 ?_
    refine v_iload C 0 rfl dX6_cut_89 ?_
    obtain ⟨b1, h⟩ := h
    refine v_iald C 26 (by decide) rfl b1 dX6_cut_91 ?_
    refine v_aload_n C 4 rfl rfl dX6_cut_92 ?_
    refine gf_X6_53 C dX6_cut_93 ?_
    refine v_iload C 6 rfl dX6_cut_96 ?_
    obtain ⟨b2, h⟩ := h
    refine v_iald C 26 (by decide) rfl b2 dX6_cut_98 ?_
    refine v_icmp_ne C 143 (by decide) dX6_cut_99 (fun q17 => ?_) (fun q17 => ?_)
    · replace h := h.1 q17
      refine v_sub C [1, 2, 3, 4, 5, 6, 0] rfl ?_
      exact so_X6_cut_143 C hr hK8 hK42 _ _ _ _ h
    · replace h := h.2 q17
      refine v_aload_n C 1 rfl rfl dX6_cut_102 ?_
      refine v_aload_n C 2 rfl rfl dX6_cut_103 ?_
      refine v_aload_n C 3 rfl rfl dX6_cut_104 ?_
      refine v_iload C 0 rfl dX6_cut_105 ?_
      refine v_iload C 6 rfl dX6_cut_107 ?_
      obtain ⟨P3, hs, h⟩ := h
      refine v_callVi C 5 [.ref (eAd E 1), .ref (eAd E 3), .int y0, .int x5] (by decide) rfl rfl rfl (so_X6_isCut y0 x5 μ P3 hs) gw_X6_56 rfl rfl dd_X6_isCut ⟨by decide, by decide⟩ rfl rfl (Nat.le_of_ble_eq_true rfl) ⟨by decide, by decide⟩ dX6_cut_109 (fun r6 μ4 q5 => ?_)
      replace h := h r6 μ4 q5
      refine v_if_ne C 143 (by decide) dX6_cut_112 (fun q16 => ?_) (fun q16 => ?_)
      · replace h := h.1 q16
        refine v_sub C [1, 2, 3, 4, 5, 6, 0] rfl ?_
        exact so_X6_cut_143 C hr hK8 hK42 _ _ _ _ h
      · replace h := h.2 q16
        refine v_aload_n C 1 rfl rfl dX6_cut_115 ?_
        refine gf_X6_19 C dX6_cut_116 ?_
        refine v_iload C 0 rfl dX6_cut_119 ?_
        refine v_aload_n C 1 rfl rfl dX6_cut_121 ?_
        refine v_aload_n C 2 rfl rfl dX6_cut_122 ?_
        refine v_aload_n C 3 rfl rfl dX6_cut_123 ?_
        refine v_iload C 0 rfl dX6_cut_124 ?_
        refine v_iload C 6 rfl dX6_cut_126 ?_
        obtain ⟨P7, hs, h⟩ := h
        refine v_callVi C 5 [.ref (eAd E 1), .ref (eAd E 3), .int y0, .int x5] (by decide) rfl rfl rfl (so_X6_isSpace y0 x5 μ4 P7 hs) gw_X6_60 rfl rfl dd_X6_isSpace ⟨by decide, by decide⟩ rfl rfl (Nat.le_of_ble_eq_true rfl) ⟨by decide, by decide⟩ dX6_cut_128 (fun r10 μ8 q9 => ?_)
        replace h := h r10 μ8 q9
        obtain ⟨b11, h⟩ := h
        refine v_zast C 28 (by decide) rfl b11 dX6_cut_131 ?_
        refine v_nmM (fun μ12 e_μ12 => ?_)
        replace h := h μ12 e_μ12
        refine v_aload_n C 1 rfl rfl dX6_cut_132 ?_
        refine v_aload_n C 2 rfl rfl dX6_cut_133 ?_
        refine v_aload_n C 3 rfl rfl dX6_cut_134 ?_
        refine v_iload C 6 rfl dX6_cut_135 ?_
        obtain ⟨P13, hs, h⟩ := h
        refine v_callVv C 5 [.ref (eAd E 1), .ref (eAd E 3), .int x5] (by decide) rfl rfl rfl (so_X6_widen x5 μ12 P13 hs) gw_X6_63 rfl rfl dd_X6_widen ⟨by decide, by decide⟩ rfl rfl (Nat.le_of_ble_eq_true rfl) ⟨by decide, by decide⟩ dX6_cut_137 (fun μ14 q15 => ?_)
        replace h := h μ14 q15
        refine v_goto C 151 (by decide) dX6_cut_140 ?_
        refine v_iinc (v := (x4 + 1)) C 5 [(4, .int (x4 + 1)), (6, .int y0), (0, .ref (eAd E 5)), (1, .ref (eAd E 1)), (2, .ref (eAd E 3)), (3, .ref (eAd E 4)), (5, .int x5)] rfl rfl (by decide) rfl dX6_cut_151 ?_
        refine v_goto C 42 (by decide) dX6_cut_154 ?_
        refine v_sub C [2, 3, 4, 5, 0] rfl ?_
        exact hK42 _ _ h
set_option maxRecDepth 10000 in
set_option maxHeartbeats 4000000 in
theorem so_X6_cut_42 {p : Program} {l : Launch} {e : Env} {s : State} {m : MethodId} {args : Array Value} {below : List Frame} {meth : Method} {c : Code} {E : EvT} {P : MemT → Prop} (C : Cx p s m args meth c E cX6_cut 7 RX6) (hr : meth.sig.returnType = none) {K8 : Int32 → MemT → Prop} (hK8 : ∀ (x4 : Int32) (μ : MemT), K8 x4 μ → V p l e (rmN 2 50) s m args below meth c E 7 0 0 (MQ below (va_Qv P (wdP E) (eA E s.heap.size)) args s 0 0 (eA E s.heap.size)) 8 [(0, .ref (eAd E 5)), (1, .ref (eAd E 1)), (2, .ref (eAd E 3)), (3, .ref (eAd E 4)), (4, .int x4)] [] μ) {K42 : Int32 → MemT → Prop} (hK42 : ∀ (x4 : Int32) (μ : MemT), K42 x4 μ → V p l e (rmN 2 50) s m args below meth c E 7 0 0 (MQ below (va_Qv P (wdP E) (eA E s.heap.size)) args s 0 0 (eA E s.heap.size)) 42 [(0, .ref (eAd E 5)), (1, .ref (eAd E 1)), (2, .ref (eAd E 3)), (3, .ref (eAd E 4)), (4, .int x4)] [] μ) (x4 : Int32) (μ : MemT) (h : t_X6_cut_42 K8 K42 P x4 μ) : V p l e (rmN 2 50) s m args below meth c E 7 0 0 (MQ below (va_Qv P (wdP E) (eA E s.heap.size)) args s 0 0 (eA E s.heap.size)) 42 [(0, .ref (eAd E 5)), (1, .ref (eAd E 1)), (2, .ref (eAd E 3)), (3, .ref (eAd E 4)), (4, .int x4)] [] μ := by
  unfold t_X6_cut_42 at h
  refine v_iload C 4 rfl dX6_cut_42 ?_
  refine v_aload_n C 3 rfl rfl dX6_cut_44 ?_
  refine gf_X6_45 C dX6_cut_45 ?_
  refine v_icmp_ge C 157 (by decide) dX6_cut_48 (fun q4 => ?_) (fun q4 => ?_)
  · replace h := h.1 q4
    exact v_vret C hr h dX6_cut_157
  · replace h := h.2 q4
    refine v_aload_n C 3 rfl rfl dX6_cut_51 ?_
    refine gf_X6_50 C dX6_cut_52 ?_
    refine v_iload C 4 rfl dX6_cut_55 ?_
    obtain ⟨b1, h⟩ := h
    refine v_iald C 24 (by decide) rfl b1 dX6_cut_57 ?_
    refine v_istore C [(5, .int (μ.1 24 x4.toNatClampNeg)), (0, .ref (eAd E 5)), (1, .ref (eAd E 1)), (2, .ref (eAd E 3)), (3, .ref (eAd E 4)), (4, .int x4)] (by decide) rfl dX6_cut_58 ?_
    refine v_iload C 5 rfl dX6_cut_60 ?_
    refine v_if_ne C 69 (by decide) dX6_cut_62 (fun q3 => ?_) (fun q3 => ?_)
    · replace h := h.1 q3
      refine v_aload_n C 4 rfl rfl dX6_cut_69 ?_
      refine gf_X6_50 C dX6_cut_70 ?_
      refine v_iload C 5 rfl dX6_cut_73 ?_
      refine v_iconst (v := (1 : Int32)) C dX6_cut_75 (by decide) ?_
      refine v_isub C dX6_cut_76 ?_
      obtain ⟨b2, h⟩ := h
      refine v_iald C 24 (by decide) rfl b2 dX6_cut_77 ?_
      refine v_sub C [1, 2, 3, 4, 5, 0] rfl ?_
      exact so_X6_cut_78 C hr hK8 hK42 _ _ _ _ h
    · replace h := h.2 q3
      refine v_iconst (v := (-1 : Int32)) C dX6_cut_65 (by decide) ?_
      refine v_goto C 78 (by decide) dX6_cut_66 ?_
      refine v_sub C [1, 2, 3, 4, 5, 0] rfl ?_
      exact so_X6_cut_78 C hr hK8 hK42 _ _ _ _ h
set_option maxRecDepth 10000 in
set_option maxHeartbeats 4000000 in
theorem so_X6_cut_8 {p : Program} {l : Launch} {e : Env} {s : State} {m : MethodId} {args : Array Value} {below : List Frame} {meth : Method} {c : Code} {E : EvT} {P : MemT → Prop} (C : Cx p s m args meth c E cX6_cut 7 RX6) (hr : meth.sig.returnType = none) {K8 : Int32 → MemT → Prop} (hK8 : ∀ (x4 : Int32) (μ : MemT), K8 x4 μ → V p l e (rmN 2 50) s m args below meth c E 7 0 0 (MQ below (va_Qv P (wdP E) (eA E s.heap.size)) args s 0 0 (eA E s.heap.size)) 8 [(0, .ref (eAd E 5)), (1, .ref (eAd E 1)), (2, .ref (eAd E 3)), (3, .ref (eAd E 4)), (4, .int x4)] [] μ) {K42 : Int32 → MemT → Prop} (hK42 : ∀ (x4 : Int32) (μ : MemT), K42 x4 μ → V p l e (rmN 2 50) s m args below meth c E 7 0 0 (MQ below (va_Qv P (wdP E) (eA E s.heap.size)) args s 0 0 (eA E s.heap.size)) 42 [(0, .ref (eAd E 5)), (1, .ref (eAd E 1)), (2, .ref (eAd E 3)), (3, .ref (eAd E 4)), (4, .int x4)] [] μ) (x4 : Int32) (μ : MemT) (h : t_X6_cut_8 K8 K42 P x4 μ) : V p l e (rmN 2 50) s m args below meth c E 7 0 0 (MQ below (va_Qv P (wdP E) (eA E s.heap.size)) args s 0 0 (eA E s.heap.size)) 8 [(0, .ref (eAd E 5)), (1, .ref (eAd E 1)), (2, .ref (eAd E 3)), (3, .ref (eAd E 4)), (4, .int x4)] [] μ := by
  unfold t_X6_cut_8 at h
  refine v_iload C 4 rfl dX6_cut_8 ?_
  refine v_aload_n C 1 rfl rfl dX6_cut_10 ?_
  refine gf_X6_42 C dX6_cut_11 ?_
  refine v_icmp_ge C 39 (by decide) dX6_cut_14 (fun q5 => ?_) (fun q5 => ?_)
  · replace h := h.1 q5
    refine v_iconst (v := (0 : Int32)) C dX6_cut_39 (by decide) ?_
    refine v_istore C [(4, .int (0 : Int32)), (0, .ref (eAd E 5)), (1, .ref (eAd E 1)), (2, .ref (eAd E 3)), (3, .ref (eAd E 4))] (by decide) rfl dX6_cut_40 ?_
    refine v_sub C [1, 2, 3, 4, 0] rfl ?_
    exact hK42 _ _ h
  · replace h := h.2 q5
    refine v_aload_n C 0 rfl rfl dX6_cut_17 ?_
    refine gf_X6_15 C dX6_cut_18 ?_
    refine v_iload C 4 rfl dX6_cut_21 ?_
    refine v_iconst (v := (-1 : Int32)) C dX6_cut_23 (by decide) ?_
    obtain ⟨b1, h⟩ := h
    refine v_iast C 27 (by decide) rfl b1 dX6_cut_24 ?_
    refine v_nmM (fun μ2 e_μ2 => ?_)
    replace h := h μ2 e_μ2
    refine v_aload_n C 0 rfl rfl dX6_cut_25 ?_
    refine gf_X6_19 C dX6_cut_26 ?_
    refine v_iload C 4 rfl dX6_cut_29 ?_
    refine v_iconst (v := (0 : Int32)) C dX6_cut_31 (by decide) ?_
    obtain ⟨b3, h⟩ := h
    refine v_zast C 28 (by decide) rfl b3 dX6_cut_32 ?_
    refine v_nmM (fun μ4 e_μ4 => ?_)
    replace h := h μ4 e_μ4
    refine v_iinc (v := (x4 + 1)) C 4 [(4, .int (x4 + 1)), (0, .ref (eAd E 5)), (1, .ref (eAd E 1)), (2, .ref (eAd E 3)), (3, .ref (eAd E 4))] rfl rfl (by decide) rfl dX6_cut_33 ?_
    refine v_goto C 8 (by decide) dX6_cut_36 ?_
    refine v_sub C [1, 2, 3, 4, 0] rfl ?_
    exact hK8 _ _ h
set_option maxRecDepth 10000 in
set_option maxHeartbeats 4000000 in
theorem so_X6_cut_0 {p : Program} {l : Launch} {e : Env} {s : State} {m : MethodId} {args : Array Value} {below : List Frame} {meth : Method} {c : Code} {E : EvT} {P : MemT → Prop} (C : Cx p s m args meth c E cX6_cut 7 RX6) (hr : meth.sig.returnType = none) {K8 : Int32 → MemT → Prop} (hK8 : ∀ (x4 : Int32) (μ : MemT), K8 x4 μ → V p l e (rmN 2 50) s m args below meth c E 7 0 0 (MQ below (va_Qv P (wdP E) (eA E s.heap.size)) args s 0 0 (eA E s.heap.size)) 8 [(0, .ref (eAd E 5)), (1, .ref (eAd E 1)), (2, .ref (eAd E 3)), (3, .ref (eAd E 4)), (4, .int x4)] [] μ) {K42 : Int32 → MemT → Prop} (hK42 : ∀ (x4 : Int32) (μ : MemT), K42 x4 μ → V p l e (rmN 2 50) s m args below meth c E 7 0 0 (MQ below (va_Qv P (wdP E) (eA E s.heap.size)) args s 0 0 (eA E s.heap.size)) 42 [(0, .ref (eAd E 5)), (1, .ref (eAd E 1)), (2, .ref (eAd E 3)), (3, .ref (eAd E 4)), (4, .int x4)] [] μ) (μ : MemT) (h : t_X6_cut_0 K8 K42 P  μ) : V p l e (rmN 2 50) s m args below meth c E 7 0 0 (MQ below (va_Qv P (wdP E) (eA E s.heap.size)) args s 0 0 (eA E s.heap.size)) 0 [(0, .ref (eAd E 5)), (1, .ref (eAd E 1)), (2, .ref (eAd E 3)), (3, .ref (eAd E 4))] [] μ := by
  unfold t_X6_cut_0 at h
  refine v_aload_n C 0 rfl rfl dX6_cut_0 ?_
  refine v_iconst (v := (0 : Int32)) C dX6_cut_1 (by decide) ?_
  refine pf_X6_9 C dX6_cut_2 ?_
  refine v_nmM (fun μ1 e_μ1 => ?_)
  replace h := h μ1 e_μ1
  refine v_iconst (v := (0 : Int32)) C dX6_cut_5 (by decide) ?_
  refine v_istore C [(4, .int (0 : Int32)), (0, .ref (eAd E 5)), (1, .ref (eAd E 1)), (2, .ref (eAd E 3)), (3, .ref (eAd E 4))] (by decide) rfl dX6_cut_6 ?_
  refine v_sub C [1, 2, 3, 4, 0] rfl ?_
  exact hK8 _ _ h
set_option maxRecDepth 10000 in
set_option maxHeartbeats 4000000 in
theorem so_X6_cut {l : Launch} {E : EvT} (μ : MemT) (P : MemT → Prop) (h : sp_X6_cut  μ P) : MCv l E yX6_cut cX6_cut 7 none (rmN 2 50) [.ref (eAd E 5), .ref (eAd E 1), .ref (eAd E 3), .ref (eAd E 4)] μ P := by
  refine mc_entryv (by decide +kernel) (Nat.le_of_ble_eq_true rfl) (fun p e s m below meth c C hr => ?_)
  have h0 := h (fun x4_ μ => V p l e (rmN 2 50) s m ([.ref (eAd E 5), .ref (eAd E 1), .ref (eAd E 3), .ref (eAd E 4)] : List Value).toArray below meth c E 7 0 0 (MQ below (va_Qv P (wdP E) (eA E s.heap.size)) ([.ref (eAd E 5), .ref (eAd E 1), .ref (eAd E 3), .ref (eAd E 4)] : List Value).toArray s 0 0 (eA E s.heap.size)) 8 [(0, .ref (eAd E 5)), (1, .ref (eAd E 1)), (2, .ref (eAd E 3)), (3, .ref (eAd E 4)), (4, .int x4_)] [] μ) (fun x4_ μ => V p l e (rmN 2 50) s m ([.ref (eAd E 5), .ref (eAd E 1), .ref (eAd E 3), .ref (eAd E 4)] : List Value).toArray below meth c E 7 0 0 (MQ below (va_Qv P (wdP E) (eA E s.heap.size)) ([.ref (eAd E 5), .ref (eAd E 1), .ref (eAd E 3), .ref (eAd E 4)] : List Value).toArray s 0 0 (eA E s.heap.size)) 42 [(0, .ref (eAd E 5)), (1, .ref (eAd E 1)), (2, .ref (eAd E 3)), (3, .ref (eAd E 4)), (4, .int x4_)] [] μ) (fun x4 μ ht => so_X6_cut_8 C hr (fun x4 μ hk => hk) (fun x4 μ hk => hk) x4 μ ht) (fun x4 μ ht => so_X6_cut_42 C hr (fun x4 μ hk => hk) (fun x4 μ hk => hk) x4 μ ht) 
  exact so_X6_cut_0 C hr (fun x4 μ hk => hk) (fun x4 μ hk => hk)  μ h0
set_option maxRecDepth 10000 in
set_option maxHeartbeats 4000000 in
theorem so_X7_add_0 {p : Program} {l : Launch} {e : Env} {s : State} {m : MethodId} {args : Array Value} {below : List Frame} {meth : Method} {c : Code} {E : EvT} {P : Int32 → MemT → Prop} (C : Cx p s m args meth c E cX7_add 10 RX7) (hr : meth.sig.returnType = (some .int)) (x1 : Int32) (x2 : Int64) (x4 : Int64) (x6 : Int64) (x8 : Int32) (μ : MemT) (h : t_X7_add_0 P x1 x2 x4 x6 x8 μ) : V p l e (rmN 0 0) s m args below meth c E 10 0 0 (MQ below (va_Qi P (wdP E) (eA E s.heap.size)) args s 0 0 (eA E s.heap.size)) 0 [(0, .ref (eAd E 1)), (1, .int x1), (2, .long x2), (4, .long x4), (6, .long x6), (8, .int x8)] [] μ := by
  unfold t_X7_add_0 at h
  refine v_aload_n C 0 rfl rfl dX7_add_0 ?_
  refine gf_X7_9 C dX7_add_1 ?_
  refine v_sipush (v := (200 : Int32)) C dX7_add_4 (by decide) ?_
  refine v_icmp_lt C 12 (by decide) dX7_add_7 (fun q14 => ?_) (fun q14 => ?_)
  · replace h := h.1 q14
    refine v_aload_n C 0 rfl rfl dX7_add_12 ?_
    refine gf_X7_9 C dX7_add_13 ?_
    refine v_istore C [(9, .int (μ.2.2.1 1)), (0, .ref (eAd E 1)), (1, .int x1), (2, .long x2), (4, .long x4), (6, .long x6), (8, .int x8)] (by decide) rfl dX7_add_16 ?_
    refine v_aload_n C 1 rfl rfl dX7_add_18 ?_
    refine gf_X7_15 C dX7_add_19 ?_
    refine v_iload C 0 rfl dX7_add_22 ?_
    refine v_iload_n C 2 rfl rfl dX7_add_24 ?_
    obtain ⟨b1, h⟩ := h
    refine v_iast C 10 (by decide) rfl b1 dX7_add_25 ?_
    refine v_nmM (fun μ2 e_μ2 => ?_)
    replace h := h μ2 e_μ2
    refine v_aload_n C 1 rfl rfl dX7_add_26 ?_
    refine gf_X7_19 C dX7_add_27 ?_
    refine v_iload C 0 rfl dX7_add_30 ?_
    refine v_lload_n C 3 rfl rfl dX7_add_32 ?_
    obtain ⟨b3, h⟩ := h
    refine v_last C 11 (by decide) rfl b3 dX7_add_33 ?_
    refine v_nmM (fun μ4 e_μ4 => ?_)
    replace h := h μ4 e_μ4
    refine v_aload_n C 1 rfl rfl dX7_add_34 ?_
    refine gf_X7_23 C dX7_add_35 ?_
    refine v_iload C 0 rfl dX7_add_38 ?_
    refine v_lload C 4 rfl dX7_add_40 ?_
    obtain ⟨b5, h⟩ := h
    refine v_last C 12 (by decide) rfl b5 dX7_add_42 ?_
    refine v_nmM (fun μ6 e_μ6 => ?_)
    replace h := h μ6 e_μ6
    refine v_aload_n C 1 rfl rfl dX7_add_43 ?_
    refine gf_X7_26 C dX7_add_44 ?_
    refine v_iload C 0 rfl dX7_add_47 ?_
    refine v_lload C 5 rfl dX7_add_49 ?_
    obtain ⟨b7, h⟩ := h
    refine v_last C 13 (by decide) rfl b7 dX7_add_51 ?_
    refine v_nmM (fun μ8 e_μ8 => ?_)
    replace h := h μ8 e_μ8
    refine v_aload_n C 1 rfl rfl dX7_add_52 ?_
    refine gf_X7_29 C dX7_add_53 ?_
    refine v_iload C 0 rfl dX7_add_56 ?_
    refine v_iload C 6 rfl dX7_add_58 ?_
    obtain ⟨b9, h⟩ := h
    refine v_iast C 14 (by decide) rfl b9 dX7_add_60 ?_
    refine v_nmM (fun μ10 e_μ10 => ?_)
    replace h := h μ10 e_μ10
    refine v_aload_n C 1 rfl rfl dX7_add_61 ?_
    refine gf_X7_36 C dX7_add_62 ?_
    refine v_iload C 0 rfl dX7_add_65 ?_
    refine v_iconst (v := (-1 : Int32)) C dX7_add_67 (by decide) ?_
    obtain ⟨b11, h⟩ := h
    refine v_iast C 16 (by decide) rfl b11 dX7_add_68 ?_
    refine v_nmM (fun μ12 e_μ12 => ?_)
    replace h := h μ12 e_μ12
    refine v_aload_n C 1 rfl rfl dX7_add_69 ?_
    refine v_iload C 0 rfl dX7_add_70 ?_
    refine v_iconst (v := (1 : Int32)) C dX7_add_72 (by decide) ?_
    refine v_iadd C dX7_add_73 ?_
    refine pf_X7_9 C dX7_add_74 ?_
    refine v_nmM (fun μ13 e_μ13 => ?_)
    replace h := h μ13 e_μ13
    refine v_iload C 0 rfl dX7_add_77 ?_
    exact v_iret C hr h dX7_add_79
  · replace h := h.2 q14
    refine v_iconst (v := (-1 : Int32)) C dX7_add_10 (by decide) ?_
    exact v_iret C hr h dX7_add_11
set_option maxRecDepth 10000 in
set_option maxHeartbeats 4000000 in
theorem so_X7_add {l : Launch} {E : EvT} (x1 : Int32) (x2 : Int64) (x4 : Int64) (x6 : Int64) (x8 : Int32) (μ : MemT) (P : Int32 → MemT → Prop) (h : sp_X7_add x1 x2 x4 x6 x8 μ P) : MCi l E yX7_add cX7_add 10 (some .int) (rmN 0 0) [.ref (eAd E 1), .int x1, .long x2, .long x4, .long x6, .int x8] μ P := by
  refine mc_entryi (by decide +kernel) (Nat.le_of_ble_eq_true rfl) (fun p e s m below meth c C hr => ?_)
  exact so_X7_add_0 C hr x1 x2 x4 x6 x8 μ h
set_option maxRecDepth 10000 in
set_option maxHeartbeats 4000000 in
theorem so_X8_refresh_0 {p : Program} {l : Launch} {e : Env} {s : State} {m : MethodId} {args : Array Value} {below : List Frame} {meth : Method} {c : Code} {E : EvT} {P : MemT → Prop} (C : Cx p s m args meth c E cX8_refresh 1 RX8) (hr : meth.sig.returnType = none) (μ : MemT) (h : t_X8_refresh_0 P  μ) : V p l e (rmN 5 129) s m args below meth c E 1 0 0 (MQ below (va_Qv P (wdP E) (eA E s.heap.size)) args s 0 0 (eA E s.heap.size)) 0 [(0, .ref (eAd E 0))] [] μ := by
  unfold t_X8_refresh_0 at h
  refine v_aload_n C 0 rfl rfl dX8_refresh_0 ?_
  refine gf_X8_65 C dX8_refresh_1 ?_
  refine v_if_eq C 8 (by decide) dX8_refresh_4 (fun q17 => ?_) (fun q17 => ?_)
  · replace h := h.1 q17
    refine v_aload_n C 0 rfl rfl dX8_refresh_8 ?_
    refine gf_X8_26 C dX8_refresh_9 ?_
    refine v_aload_n C 0 rfl rfl dX8_refresh_12 ?_
    refine gf_X8_12 C dX8_refresh_13 ?_
    refine v_aload_n C 0 rfl rfl dX8_refresh_16 ?_
    refine gf_X8_19 C dX8_refresh_17 ?_
    obtain ⟨P1, hs, h⟩ := h
    refine v_callVv C 3 [.ref (eAd E 1), .ref (eAd E 2)] (by decide) rfl rfl rfl (so_X3_settle μ P1 hs) gw_X8_218 rfl rfl dd_X3_settle ⟨by decide, by decide⟩ rfl rfl (Nat.le_of_ble_eq_true rfl) ⟨by decide, by decide⟩ dX8_refresh_20 (fun μ2 q3 => ?_)
    replace h := h μ2 q3
    refine v_aload_n C 0 rfl rfl dX8_refresh_23 ?_
    refine gf_X8_33 C dX8_refresh_24 ?_
    refine v_aload_n C 0 rfl rfl dX8_refresh_27 ?_
    refine gf_X8_12 C dX8_refresh_28 ?_
    refine v_aload_n C 0 rfl rfl dX8_refresh_31 ?_
    refine gf_X8_26 C dX8_refresh_32 ?_
    obtain ⟨P4, hs, h⟩ := h
    refine v_callVv C 4 [.ref (eAd E 1), .ref (eAd E 3)] (by decide) rfl rfl rfl (so_X1_gather μ2 P4 hs) gw_X8_222 rfl rfl dd_X1_gather ⟨by decide, by decide⟩ rfl rfl (Nat.le_of_ble_eq_true rfl) ⟨by decide, by decide⟩ dX8_refresh_35 (fun μ5 q6 => ?_)
    replace h := h μ5 q6
    refine v_aload_n C 0 rfl rfl dX8_refresh_38 ?_
    refine gf_X8_40 C dX8_refresh_39 ?_
    refine v_aload_n C 0 rfl rfl dX8_refresh_42 ?_
    refine gf_X8_12 C dX8_refresh_43 ?_
    refine v_aload_n C 0 rfl rfl dX8_refresh_46 ?_
    refine gf_X8_26 C dX8_refresh_47 ?_
    refine v_aload_n C 0 rfl rfl dX8_refresh_50 ?_
    refine gf_X8_33 C dX8_refresh_51 ?_
    obtain ⟨P7, hs, h⟩ := h
    refine v_callVv C 5 [.ref (eAd E 1), .ref (eAd E 3), .ref (eAd E 4)] (by decide) rfl rfl rfl (so_X6_cut μ5 P7 hs) gw_X8_226 rfl rfl dd_X6_cut ⟨by decide, by decide⟩ rfl rfl (Nat.le_of_ble_eq_true rfl) ⟨by decide, by decide⟩ dX8_refresh_54 (fun μ8 q9 => ?_)
    replace h := h μ8 q9
    refine v_aload_n C 0 rfl rfl dX8_refresh_57 ?_
    refine gf_X8_47 C dX8_refresh_58 ?_
    refine v_aload_n C 0 rfl rfl dX8_refresh_61 ?_
    refine gf_X8_40 C dX8_refresh_62 ?_
    obtain ⟨P10, hs, h⟩ := h
    refine v_callVv C 6 [.ref (eAd E 5)] (by decide) rfl rfl rfl (so_X0_arrange μ8 P10 hs) gw_X8_230 rfl rfl dd_X0_arrange ⟨by decide, by decide⟩ rfl rfl (Nat.le_of_ble_eq_true rfl) ⟨by decide, by decide⟩ dX8_refresh_65 (fun μ11 q12 => ?_)
    replace h := h μ11 q12
    refine v_aload_n C 0 rfl rfl dX8_refresh_68 ?_
    refine gf_X8_54 C dX8_refresh_69 ?_
    refine v_aload_n C 0 rfl rfl dX8_refresh_72 ?_
    refine gf_X8_12 C dX8_refresh_73 ?_
    refine v_aload_n C 0 rfl rfl dX8_refresh_76 ?_
    refine gf_X8_26 C dX8_refresh_77 ?_
    refine v_aload_n C 0 rfl rfl dX8_refresh_80 ?_
    refine gf_X8_33 C dX8_refresh_81 ?_
    refine v_aload_n C 0 rfl rfl dX8_refresh_84 ?_
    refine gf_X8_40 C dX8_refresh_85 ?_
    refine v_aload_n C 0 rfl rfl dX8_refresh_88 ?_
    refine gf_X8_47 C dX8_refresh_89 ?_
    obtain ⟨P13, hs, h⟩ := h
    refine v_callVv C 7 [.ref (eAd E 1), .ref (eAd E 3), .ref (eAd E 4), .ref (eAd E 5), .ref (eAd E 6)] (by decide) rfl rfl rfl (so_X4_write μ11 P13 hs) gw_X8_234 rfl rfl dd_X4_write ⟨by decide, by decide⟩ rfl rfl (Nat.le_of_ble_eq_true rfl) ⟨by decide, by decide⟩ dX8_refresh_92 (fun μ14 q15 => ?_)
    replace h := h μ14 q15
    refine v_aload_n C 0 rfl rfl dX8_refresh_95 ?_
    refine v_iconst (v := (1 : Int32)) C dX8_refresh_96 (by decide) ?_
    refine pf_X8_65 C (by decide) dX8_refresh_97 ?_
    refine v_nmM (fun μ16 e_μ16 => ?_)
    replace h := h μ16 e_μ16
    exact v_vret C hr h dX8_refresh_100
  · replace h := h.2 q17
    exact v_vret C hr h dX8_refresh_7
set_option maxRecDepth 10000 in
set_option maxHeartbeats 4000000 in
theorem so_X8_refresh {l : Launch} {E : EvT} (μ : MemT) (P : MemT → Prop) (h : sp_X8_refresh  μ P) : MCv l E yX8_refresh cX8_refresh 1 none (rmN 5 129) [.ref (eAd E 0)] μ P := by
  refine mc_entryv (by decide +kernel) (Nat.le_of_ble_eq_true rfl) (fun p e s m below meth c C hr => ?_)
  exact so_X8_refresh_0 C hr  μ h
set_option maxRecDepth 10000 in
set_option maxHeartbeats 4000000 in
theorem so_X8_length_0 {p : Program} {l : Launch} {e : Env} {s : State} {m : MethodId} {args : Array Value} {below : List Frame} {meth : Method} {c : Code} {E : EvT} {P : Int32 → MemT → Prop} (C : Cx p s m args meth c E cX8_length 1 RX8) (hr : meth.sig.returnType = (some .int)) (μ : MemT) (h : t_X8_length_0 P  μ) : V p l e (rmN 6 149) s m args below meth c E 1 0 0 (MQ below (va_Qi P (wdP E) (eA E s.heap.size)) args s 0 0 (eA E s.heap.size)) 0 [(0, .ref (eAd E 0))] [] μ := by
  unfold t_X8_length_0 at h
  refine v_aload_n C 0 rfl rfl dX8_length_0 ?_
  obtain ⟨P1, hs, h⟩ := h
  refine v_callVv C 0 [] (by decide) rfl rfl rfl (so_X8_refresh μ P1 hs) gw_X8_128 rfl rfl dd_X8_refresh ⟨by decide, by decide⟩ rfl rfl (Nat.le_of_ble_eq_true rfl) ⟨by decide, by decide⟩ dX8_length_1 (fun μ2 q3 => ?_)
  replace h := h μ2 q3
  refine v_aload_n C 0 rfl rfl dX8_length_4 ?_
  refine gf_X8_54 C dX8_length_5 ?_
  refine gf_X8_131 C dX8_length_8 ?_
  exact v_iret C hr h dX8_length_11
set_option maxRecDepth 10000 in
set_option maxHeartbeats 4000000 in
theorem so_X8_length {l : Launch} {E : EvT} (μ : MemT) (P : Int32 → MemT → Prop) (h : sp_X8_length  μ P) : MCi l E yX8_length cX8_length 1 (some .int) (rmN 6 149) [.ref (eAd E 0)] μ P := by
  refine mc_entryi (by decide +kernel) (Nat.le_of_ble_eq_true rfl) (fun p e s m below meth c C hr => ?_)
  exact so_X8_length_0 C hr  μ h
set_option maxRecDepth 10000 in
set_option maxHeartbeats 4000000 in
theorem so_X8_isBetween_0 {p : Program} {l : Launch} {e : Env} {s : State} {m : MethodId} {args : Array Value} {below : List Frame} {meth : Method} {c : Code} {E : EvT} {P : Int32 → MemT → Prop} (C : Cx p s m args meth c E cX8_isBetween 6 RX8) (hr : meth.sig.returnType = (some .boolean)) (x0 : Int64) (x2 : Int64) (x4 : Int64) (μ : MemT) (h : t_X8_isBetween_0 P x0 x2 x4 μ) : V p l e (rmN 0 0) s m args below meth c E 6 0 0 (MQ below (va_Qi P (wdP E) (eA E s.heap.size)) args s 0 0 (eA E s.heap.size)) 0 [(0, .long x0), (2, .long x2), (4, .long x4)] [] μ := by
  unfold t_X8_isBetween_0 at h
  refine v_lload_n C 0 rfl rfl dX8_isBetween_0 ?_
  refine v_lload_n C 1 rfl rfl dX8_isBetween_1 ?_
  refine v_lcmp_lt C 17 (by decide) dX8_isBetween_2 dX8_isBetween_3 (fun q2 => ?_) (fun q2 => ?_)
  · replace h := h.1 q2
    refine v_iconst (v := (0 : Int32)) C dX8_isBetween_17 (by decide) ?_
    exact v_zret C hr nb0 h dX8_isBetween_18
  · replace h := h.2 q2
    refine v_lload_n C 0 rfl rfl dX8_isBetween_6 ?_
    refine v_lload C 2 rfl dX8_isBetween_7 ?_
    refine v_lcmp_gt C 17 (by decide) dX8_isBetween_9 dX8_isBetween_10 (fun q1 => ?_) (fun q1 => ?_)
    · replace h := h.1 q1
      refine v_iconst (v := (0 : Int32)) C dX8_isBetween_17 (by decide) ?_
      exact v_zret C hr nb0 h dX8_isBetween_18
    · replace h := h.2 q1
      refine v_iconst (v := (1 : Int32)) C dX8_isBetween_13 (by decide) ?_
      refine v_goto C 18 (by decide) dX8_isBetween_14 ?_
      exact v_zret C hr nb1 h dX8_isBetween_18
set_option maxRecDepth 10000 in
set_option maxHeartbeats 4000000 in
theorem so_X8_isBetween {l : Launch} {E : EvT} (x0 : Int64) (x2 : Int64) (x4 : Int64) (μ : MemT) (P : Int32 → MemT → Prop) (h : sp_X8_isBetween x0 x2 x4 μ P) : MCi l E yX8_isBetween cX8_isBetween 6 (some .boolean) (rmN 0 0) [.long x0, .long x2, .long x4] μ P := by
  refine mc_entryi (by decide +kernel) (Nat.le_of_ble_eq_true rfl) (fun p e s m below meth c C hr => ?_)
  exact so_X8_isBetween_0 C hr x0 x2 x4 μ h
set_option maxRecDepth 10000 in
set_option maxHeartbeats 4000000 in
theorem so_X8_area_10 {p : Program} {l : Launch} {e : Env} {s : State} {m : MethodId} {args : Array Value} {below : List Frame} {meth : Method} {c : Code} {E : EvT} {P : Int32 → MemT → Prop} (C : Cx p s m args meth c E cX8_area 12 RX8) (hr : meth.sig.returnType = (some .int)) {K10 : Int64 → Int64 → Int64 → Int64 → Int32 → Int32 → MemT → Prop} (hK10 : ∀ (x1 : Int64) (x3 : Int64) (x5 : Int64) (x7 : Int64) (x9 : Int32) (x10 : Int32) (μ : MemT), K10 x1 x3 x5 x7 x9 x10 μ → V p l e (rmN 6 149) s m args below meth c E 12 0 0 (MQ below (va_Qi P (wdP E) (eA E s.heap.size)) args s 0 0 (eA E s.heap.size)) 10 [(0, .ref (eAd E 0)), (1, .long x1), (3, .long x3), (5, .long x5), (7, .long x7), (9, .int x9), (10, .int x10)] [] μ) (x1 : Int64) (x3 : Int64) (x5 : Int64) (x7 : Int64) (x9 : Int32) (x10 : Int32) (μ : MemT) (h : t_X8_area_10 K10 P x1 x3 x5 x7 x9 x10 μ) : V p l e (rmN 6 149) s m args below meth c E 12 0 0 (MQ below (va_Qi P (wdP E) (eA E s.heap.size)) args s 0 0 (eA E s.heap.size)) 10 [(0, .ref (eAd E 0)), (1, .long x1), (3, .long x3), (5, .long x5), (7, .long x7), (9, .int x9), (10, .int x10)] [] μ := by
  unfold t_X8_area_10 at h
  refine v_iload C 6 rfl dX8_area_10 ?_
  refine v_aload_n C 0 rfl rfl dX8_area_12 ?_
  refine gf_X8_54 C dX8_area_13 ?_
  refine gf_X8_131 C dX8_area_16 ?_
  refine v_icmp_ge C 86 (by decide) dX8_area_19 (fun q15 => ?_) (fun q15 => ?_)
  · replace h := h.1 q15
    refine v_iload C 5 rfl dX8_area_86 ?_
    exact v_iret C hr h dX8_area_88
  · replace h := h.2 q15
    refine v_aload_n C 0 rfl rfl dX8_area_22 ?_
    refine gf_X8_54 C dX8_area_23 ?_
    refine gf_X8_139 C dX8_area_26 ?_
    refine v_iload C 6 rfl dX8_area_29 ?_
    obtain ⟨b1, h⟩ := h
    refine v_iald C 40 (by decide) rfl b1 dX8_area_31 ?_
    refine v_istore C [(11, .int (μ.1 40 x10.toNatClampNeg)), (0, .ref (eAd E 0)), (1, .long x1), (3, .long x3), (5, .long x5), (7, .long x7), (9, .int x9), (10, .int x10)] (by decide) rfl dX8_area_32 ?_
    refine v_iload C 0 rfl dX8_area_34 ?_
    refine v_if_lt C 80 (by decide) dX8_area_36 (fun q14 => ?_) (fun q14 => ?_)
    · replace h := h.1 q14
      refine v_iinc (v := (x10 + 1)) C 7 [(10, .int (x10 + 1)), (11, .int (μ.1 40 x10.toNatClampNeg)), (0, .ref (eAd E 0)), (1, .long x1), (3, .long x3), (5, .long x5), (7, .long x7), (9, .int x9)] rfl rfl (by decide) rfl dX8_area_80 ?_
      refine v_goto C 10 (by decide) dX8_area_83 ?_
      refine v_sub C [2, 3, 4, 5, 6, 7, 0] rfl ?_
      exact hK10 _ _ _ _ _ _ _ h
    · replace h := h.2 q14
      refine v_aload_n C 1 rfl rfl dX8_area_39 ?_
      refine gf_X8_12 C dX8_area_40 ?_
      refine gf_X8_200 C dX8_area_43 ?_
      refine v_iload C 0 rfl dX8_area_46 ?_
      obtain ⟨b2, h⟩ := h
      refine v_lald C 11 (by decide) rfl b2 dX8_area_48 ?_
      refine v_lload_n C 2 rfl rfl dX8_area_49 ?_
      refine v_lload C 4 rfl dX8_area_50 ?_
      obtain ⟨P3, hs, h⟩ := h
      refine v_callSi C [.long (μ.2.1 11 (μ.1 40 x10.toNatClampNeg).toNatClampNeg), .long x1, .long x5] (so_X8_isBetween (μ.2.1 11 (μ.1 40 x10.toNatClampNeg).toNatClampNeg) x1 x5 μ P3 hs) gw_X8_204 rfl rfl dd_X8_isBetween ⟨by decide, by decide⟩ rfl rfl (Nat.le_of_ble_eq_true rfl) ⟨by decide, by decide⟩ dX8_area_52 (fun r6 μ4 q5 => ?_)
      replace h := h r6 μ4 q5
      refine v_if_eq C 80 (by decide) dX8_area_55 (fun q13 => ?_) (fun q13 => ?_)
      · replace h := h.1 q13
        refine v_iinc (v := (x10 + 1)) C 7 [(10, .int (x10 + 1)), (11, .int (μ.1 40 x10.toNatClampNeg)), (0, .ref (eAd E 0)), (1, .long x1), (3, .long x3), (5, .long x5), (7, .long x7), (9, .int x9)] rfl rfl (by decide) rfl dX8_area_80 ?_
        refine v_goto C 10 (by decide) dX8_area_83 ?_
        refine v_sub C [2, 3, 4, 5, 6, 7, 0] rfl ?_
        exact hK10 _ _ _ _ _ _ _ h
      · replace h := h.2 q13
        refine v_aload_n C 1 rfl rfl dX8_area_58 ?_
        refine gf_X8_12 C dX8_area_59 ?_
        refine gf_X8_208 C dX8_area_62 ?_
        refine v_iload C 0 rfl dX8_area_65 ?_
        obtain ⟨b7, h⟩ := h
        refine v_lald C 12 (by decide) rfl b7 dX8_area_67 ?_
        refine v_lload_n C 3 rfl rfl dX8_area_68 ?_
        refine v_lload C 5 rfl dX8_area_69 ?_
        obtain ⟨P8, hs, h⟩ := h
        refine v_callSi C [.long (μ4.2.1 12 (μ.1 40 x10.toNatClampNeg).toNatClampNeg), .long x3, .long x7] (so_X8_isBetween (μ4.2.1 12 (μ.1 40 x10.toNatClampNeg).toNatClampNeg) x3 x7 μ4 P8 hs) gw_X8_204 rfl rfl dd_X8_isBetween ⟨by decide, by decide⟩ rfl rfl (Nat.le_of_ble_eq_true rfl) ⟨by decide, by decide⟩ dX8_area_71 (fun r11 μ9 q10 => ?_)
        replace h := h r11 μ9 q10
        refine v_if_eq C 80 (by decide) dX8_area_74 (fun q12 => ?_) (fun q12 => ?_)
        · replace h := h.1 q12
          refine v_iinc (v := (x10 + 1)) C 7 [(10, .int (x10 + 1)), (11, .int (μ.1 40 x10.toNatClampNeg)), (0, .ref (eAd E 0)), (1, .long x1), (3, .long x3), (5, .long x5), (7, .long x7), (9, .int x9)] rfl rfl (by decide) rfl dX8_area_80 ?_
          refine v_goto C 10 (by decide) dX8_area_83 ?_
          refine v_sub C [2, 3, 4, 5, 6, 7, 0] rfl ?_
          exact hK10 _ _ _ _ _ _ _ h
        · replace h := h.2 q12
          refine v_iinc (v := (x9 + 1)) C 6 [(9, .int (x9 + 1)), (11, .int (μ.1 40 x10.toNatClampNeg)), (0, .ref (eAd E 0)), (1, .long x1), (3, .long x3), (5, .long x5), (7, .long x7), (10, .int x10)] rfl rfl (by decide) rfl dX8_area_77 ?_
          refine v_iinc (v := (x10 + 1)) C 7 [(10, .int (x10 + 1)), (9, .int (x9 + 1)), (11, .int (μ.1 40 x10.toNatClampNeg)), (0, .ref (eAd E 0)), (1, .long x1), (3, .long x3), (5, .long x5), (7, .long x7)] rfl rfl (by decide) rfl dX8_area_80 ?_
          refine v_goto C 10 (by decide) dX8_area_83 ?_
          refine v_sub C [3, 4, 5, 6, 7, 1, 0] rfl ?_
          exact hK10 _ _ _ _ _ _ _ h
set_option maxRecDepth 10000 in
set_option maxHeartbeats 4000000 in
theorem so_X8_area_0 {p : Program} {l : Launch} {e : Env} {s : State} {m : MethodId} {args : Array Value} {below : List Frame} {meth : Method} {c : Code} {E : EvT} {P : Int32 → MemT → Prop} (C : Cx p s m args meth c E cX8_area 12 RX8) (hr : meth.sig.returnType = (some .int)) {K10 : Int64 → Int64 → Int64 → Int64 → Int32 → Int32 → MemT → Prop} (hK10 : ∀ (x1 : Int64) (x3 : Int64) (x5 : Int64) (x7 : Int64) (x9 : Int32) (x10 : Int32) (μ : MemT), K10 x1 x3 x5 x7 x9 x10 μ → V p l e (rmN 6 149) s m args below meth c E 12 0 0 (MQ below (va_Qi P (wdP E) (eA E s.heap.size)) args s 0 0 (eA E s.heap.size)) 10 [(0, .ref (eAd E 0)), (1, .long x1), (3, .long x3), (5, .long x5), (7, .long x7), (9, .int x9), (10, .int x10)] [] μ) (x1 : Int64) (x3 : Int64) (x5 : Int64) (x7 : Int64) (μ : MemT) (h : t_X8_area_0 K10 P x1 x3 x5 x7 μ) : V p l e (rmN 6 149) s m args below meth c E 12 0 0 (MQ below (va_Qi P (wdP E) (eA E s.heap.size)) args s 0 0 (eA E s.heap.size)) 0 [(0, .ref (eAd E 0)), (1, .long x1), (3, .long x3), (5, .long x5), (7, .long x7)] [] μ := by
  unfold t_X8_area_0 at h
  refine v_aload_n C 0 rfl rfl dX8_area_0 ?_
  obtain ⟨P1, hs, h⟩ := h
  refine v_callVv C 0 [] (by decide) rfl rfl rfl (so_X8_refresh μ P1 hs) gw_X8_128 rfl rfl dd_X8_refresh ⟨by decide, by decide⟩ rfl rfl (Nat.le_of_ble_eq_true rfl) ⟨by decide, by decide⟩ dX8_area_1 (fun μ2 q3 => ?_)
  replace h := h μ2 q3
  refine v_iconst (v := (0 : Int32)) C dX8_area_4 (by decide) ?_
  refine v_istore C [(9, .int (0 : Int32)), (0, .ref (eAd E 0)), (1, .long x1), (3, .long x3), (5, .long x5), (7, .long x7)] (by decide) rfl dX8_area_5 ?_
  refine v_iconst (v := (0 : Int32)) C dX8_area_7 (by decide) ?_
  refine v_istore C [(10, .int (0 : Int32)), (9, .int (0 : Int32)), (0, .ref (eAd E 0)), (1, .long x1), (3, .long x3), (5, .long x5), (7, .long x7)] (by decide) rfl dX8_area_8 ?_
  refine v_sub C [2, 3, 4, 5, 6, 1, 0] rfl ?_
  exact hK10 _ _ _ _ _ _ _ h
set_option maxRecDepth 10000 in
set_option maxHeartbeats 4000000 in
theorem so_X8_area {l : Launch} {E : EvT} (x1 : Int64) (x3 : Int64) (x5 : Int64) (x7 : Int64) (μ : MemT) (P : Int32 → MemT → Prop) (h : sp_X8_area x1 x3 x5 x7 μ P) : MCi l E yX8_area cX8_area 12 (some .int) (rmN 6 149) [.ref (eAd E 0), .long x1, .long x3, .long x5, .long x7] μ P := by
  refine mc_entryi (by decide +kernel) (Nat.le_of_ble_eq_true rfl) (fun p e s m below meth c C hr => ?_)
  have h0 := h (fun x1_ x3_ x5_ x7_ x9_ x10_ μ => V p l e (rmN 6 149) s m ([.ref (eAd E 0), .long x1, .long x3, .long x5, .long x7] : List Value).toArray below meth c E 12 0 0 (MQ below (va_Qi P (wdP E) (eA E s.heap.size)) ([.ref (eAd E 0), .long x1, .long x3, .long x5, .long x7] : List Value).toArray s 0 0 (eA E s.heap.size)) 10 [(0, .ref (eAd E 0)), (1, .long x1_), (3, .long x3_), (5, .long x5_), (7, .long x7_), (9, .int x9_), (10, .int x10_)] [] μ) (fun x1 x3 x5 x7 x9 x10 μ ht => so_X8_area_10 C hr (fun x1 x3 x5 x7 x9 x10 μ hk => hk) x1 x3 x5 x7 x9 x10 μ ht) 
  exact so_X8_area_0 C hr (fun x1 x3 x5 x7 x9 x10 μ hk => hk) x1 x3 x5 x7 μ h0
set_option maxRecDepth 10000 in
set_option maxHeartbeats 4000000 in
theorem so_X8_isCoordinate_0 {p : Program} {l : Launch} {e : Env} {s : State} {m : MethodId} {args : Array Value} {below : List Frame} {meth : Method} {c : Code} {E : EvT} {P : Int32 → MemT → Prop} (C : Cx p s m args meth c E cX8_isCoordinate 2 RX8) (hr : meth.sig.returnType = (some .boolean)) (x0 : Int64) (μ : MemT) (h : t_X8_isCoordinate_0 P x0 μ) : V p l e (rmN 1 25) s m args below meth c E 2 0 0 (MQ below (va_Qi P (wdP E) (eA E s.heap.size)) args s 0 0 (eA E s.heap.size)) 0 [(0, .long x0)] [] μ := by
  unfold t_X8_isCoordinate_0 at h
  refine v_lload_n C 0 rfl rfl dX8_isCoordinate_0 ?_
  refine v_ldc2 C gc_X8_238 dX8_isCoordinate_1 ?_
  refine v_ldc2 C gc_X8_73 dX8_isCoordinate_4 ?_
  obtain ⟨P1, hs, h⟩ := h
  refine v_callSi C [.long x0, .long (-1000000 : Int64), .long (1000000 : Int64)] (so_X8_isBetween x0 (-1000000 : Int64) (1000000 : Int64) μ P1 hs) gw_X8_204 rfl rfl dd_X8_isBetween ⟨by decide, by decide⟩ rfl rfl (Nat.le_of_ble_eq_true rfl) ⟨by decide, by decide⟩ dX8_isCoordinate_7 (fun r4 μ2 q3 => ?_)
  replace h := h r4 μ2 q3
  obtain ⟨b5, h⟩ := h
  exact v_zret C hr (nb01 b5) h dX8_isCoordinate_10
set_option maxRecDepth 10000 in
set_option maxHeartbeats 4000000 in
theorem so_X8_isCoordinate {l : Launch} {E : EvT} (x0 : Int64) (μ : MemT) (P : Int32 → MemT → Prop) (h : sp_X8_isCoordinate x0 μ P) : MCi l E yX8_isCoordinate cX8_isCoordinate 2 (some .boolean) (rmN 1 25) [.long x0] μ P := by
  refine mc_entryi (by decide +kernel) (Nat.le_of_ble_eq_true rfl) (fun p e s m below meth c C hr => ?_)
  exact so_X8_isCoordinate_0 C hr x0 μ h
set_option maxRecDepth 10000 in
set_option maxHeartbeats 4000000 in
theorem so_X8_areLetters_0 {p : Program} {l : Launch} {e : Env} {s : State} {m : MethodId} {args : Array Value} {below : List Frame} {meth : Method} {c : Code} {E : EvT} {P : Int32 → MemT → Prop} (C : Cx p s m args meth c E cX8_areLetters 2 RX8) (hr : meth.sig.returnType = (some .boolean)) (x0 : Int32) (x1 : Int32) (μ : MemT) (h : t_X8_areLetters_0 P x0 x1 μ) : V p l e (rmN 0 0) s m args below meth c E 2 0 0 (MQ below (va_Qi P (wdP E) (eA E s.heap.size)) args s 0 0 (eA E s.heap.size)) 0 [(0, .int x0), (1, .int x1)] [] μ := by
  unfold t_X8_areLetters_0 at h
  refine v_iload_n C 0 rfl rfl dX8_areLetters_0 ?_
  refine v_if_ne C 14 (by decide) dX8_areLetters_1 (fun q6 => ?_) (fun q6 => ?_)
  · replace h := h.1 q6
    refine v_iload_n C 0 rfl rfl dX8_areLetters_14 ?_
    refine v_iconst (v := (1 : Int32)) C dX8_areLetters_15 (by decide) ?_
    refine v_icmp_lt C 39 (by decide) dX8_areLetters_16 (fun q4 => ?_) (fun q4 => ?_)
    · replace h := h.1 q4
      refine v_iconst (v := (0 : Int32)) C dX8_areLetters_39 (by decide) ?_
      exact v_zret C hr nb0 h dX8_areLetters_40
    · replace h := h.2 q4
      refine v_iload_n C 0 rfl rfl dX8_areLetters_19 ?_
      refine v_ldc C gc_X8_179 dX8_areLetters_20 ?_
      refine v_icmp_gt C 39 (by decide) dX8_areLetters_22 (fun q3 => ?_) (fun q3 => ?_)
      · replace h := h.1 q3
        refine v_iconst (v := (0 : Int32)) C dX8_areLetters_39 (by decide) ?_
        exact v_zret C hr nb0 h dX8_areLetters_40
      · replace h := h.2 q3
        refine v_iload_n C 1 rfl rfl dX8_areLetters_25 ?_
        refine v_if_lt C 39 (by decide) dX8_areLetters_26 (fun q2 => ?_) (fun q2 => ?_)
        · replace h := h.1 q2
          refine v_iconst (v := (0 : Int32)) C dX8_areLetters_39 (by decide) ?_
          exact v_zret C hr nb0 h dX8_areLetters_40
        · replace h := h.2 q2
          refine v_iload_n C 1 rfl rfl dX8_areLetters_29 ?_
          refine v_ldc C gc_X8_179 dX8_areLetters_30 ?_
          refine v_icmp_gt C 39 (by decide) dX8_areLetters_32 (fun q1 => ?_) (fun q1 => ?_)
          · replace h := h.1 q1
            refine v_iconst (v := (0 : Int32)) C dX8_areLetters_39 (by decide) ?_
            exact v_zret C hr nb0 h dX8_areLetters_40
          · replace h := h.2 q1
            refine v_iconst (v := (1 : Int32)) C dX8_areLetters_35 (by decide) ?_
            refine v_goto C 40 (by decide) dX8_areLetters_36 ?_
            exact v_zret C hr nb1 h dX8_areLetters_40
  · replace h := h.2 q6
    refine v_iload_n C 1 rfl rfl dX8_areLetters_4 ?_
    refine v_if_ne C 12 (by decide) dX8_areLetters_5 (fun q5 => ?_) (fun q5 => ?_)
    · replace h := h.1 q5
      refine v_iconst (v := (0 : Int32)) C dX8_areLetters_12 (by decide) ?_
      exact v_zret C hr nb0 h dX8_areLetters_13
    · replace h := h.2 q5
      refine v_iconst (v := (1 : Int32)) C dX8_areLetters_8 (by decide) ?_
      refine v_goto C 13 (by decide) dX8_areLetters_9 ?_
      exact v_zret C hr nb1 h dX8_areLetters_13
set_option maxRecDepth 10000 in
set_option maxHeartbeats 4000000 in
theorem so_X8_areLetters {l : Launch} {E : EvT} (x0 : Int32) (x1 : Int32) (μ : MemT) (P : Int32 → MemT → Prop) (h : sp_X8_areLetters x0 x1 μ P) : MCi l E yX8_areLetters cX8_areLetters 2 (some .boolean) (rmN 0 0) [.int x0, .int x1] μ P := by
  refine mc_entryi (by decide +kernel) (Nat.le_of_ble_eq_true rfl) (fun p e s m below meth c C hr => ?_)
  exact so_X8_areLetters_0 C hr x0 x1 μ h
