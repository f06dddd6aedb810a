set_option maxRecDepth 10000 in
set_option maxHeartbeats 4000000 in
theorem so_X9_thrown_0 {p : Program} {l : Launch} {e : Env} {s : State} {m : MethodId} {args : Array Value} {below : List Frame} {meth : Method} {c : Code} {E : EvT} {P : Int32 → MemT → Prop} (C : Cx p s m args meth c E cX9_thrown 1 RX9) (hr : meth.sig.returnType = (some .int)) (μ : MemT) (h : t_X9_thrown_0 P  μ) : V p l e (rmN 0 0) s m args below meth c E 1 0 0 (MQ below (va_Qi P (wdP E) (eA E s.heap.size)) args s 0 0 (eA E s.heap.size)) 0 [(0, .ref (eAd E 9))] [] μ := by
  unfold t_X9_thrown_0 at h
  refine v_aload_n C 0 rfl rfl dX9_thrown_0 ?_
  refine gf_X9_109 C dX9_thrown_1 ?_
  exact v_iret C hr h dX9_thrown_4
set_option maxRecDepth 10000 in
set_option maxHeartbeats 4000000 in
theorem so_X9_thrown {l : Launch} {E : EvT} (μ : MemT) (P : Int32 → MemT → Prop) (h : sp_X9_thrown  μ P) : MCi l E yX9_thrown cX9_thrown 1 (some .int) (rmN 0 0) [.ref (eAd E 9)] μ P := by
  refine mc_entryi (by decide +kernel) (Nat.le_of_ble_eq_true rfl) (fun p e s m below meth c C hr => ?_)
  exact so_X9_thrown_0 C hr  μ h
set_option maxRecDepth 10000 in
set_option maxHeartbeats 4000000 in
theorem so_X9_refused_18 {p : Program} {l : Launch} {e : Env} {s : State} {m : MethodId} {args : Array Value} {below : List Frame} {meth : Method} {c : Code} {E : EvT} {P : Int32 → MemT → Prop} (C : Cx p s m args meth c E cX9_refused 3 RX9) (hr : meth.sig.returnType = (some .boolean)) (x1 : Int32) (x2 : Int32) (y1 : Int32) (μ : MemT) (h : t_X9_refused_18 P x1 x2 y1 μ) : V p l e (rmN 0 0) s m args below meth c E 3 0 0 (MQ below (va_Qi P (wdP E) (eA E s.heap.size)) args s 0 0 (eA E s.heap.size)) 18 [(0, .ref (eAd E 9)), (1, .int x1), (2, .int x2)] [.int y1, .ref (eAd E 9)] μ := by
  unfold t_X9_refused_18 at h
  refine pf_X9_109 C dX9_refused_18 ?_
  refine v_nmM (fun μ1 e_μ1 => ?_)
  replace h := h μ1 e_μ1
  refine v_aload_n C 0 rfl rfl dX9_refused_21 ?_
  refine gf_X9_109 C dX9_refused_22 ?_
  refine v_if_le C 32 (by decide) dX9_refused_25 (fun q2 => ?_) (fun q2 => ?_)
  · replace h := h.1 q2
    refine v_iconst (v := (0 : Int32)) C dX9_refused_32 (by decide) ?_
    exact v_zret C hr nb0 h dX9_refused_33
  · replace h := h.2 q2
    refine v_iconst (v := (1 : Int32)) C dX9_refused_28 (by decide) ?_
    refine v_goto C 33 (by decide) dX9_refused_29 ?_
    exact v_zret C hr nb1 h dX9_refused_33
set_option maxRecDepth 10000 in
set_option maxHeartbeats 4000000 in
theorem so_X9_refused_0 {p : Program} {l : Launch} {e : Env} {s : State} {m : MethodId} {args : Array Value} {below : List Frame} {meth : Method} {c : Code} {E : EvT} {P : Int32 → MemT → Prop} (C : Cx p s m args meth c E cX9_refused 3 RX9) (hr : meth.sig.returnType = (some .boolean)) (x1 : Int32) (x2 : Int32) (μ : MemT) (h : t_X9_refused_0 P x1 x2 μ) : V p l e (rmN 0 0) s m args below meth c E 3 0 0 (MQ below (va_Qi P (wdP E) (eA E s.heap.size)) args s 0 0 (eA E s.heap.size)) 0 [(0, .ref (eAd E 9)), (1, .int x1), (2, .int x2)] [] μ := by
  unfold t_X9_refused_0 at h
  refine v_aload_n C 0 rfl rfl dX9_refused_0 ?_
  refine v_iload_n C 1 rfl rfl dX9_refused_1 ?_
  refine v_if_eq C 9 (by decide) dX9_refused_2 (fun q2 => ?_) (fun q2 => ?_)
  · replace h := h.1 q2
    refine v_iload_n C 2 rfl rfl dX9_refused_9 ?_
    refine v_if_eq C 17 (by decide) dX9_refused_10 (fun q1 => ?_) (fun q1 => ?_)
    · replace h := h.1 q1
      refine v_iconst (v := (0 : Int32)) C dX9_refused_17 (by decide) ?_
      exact so_X9_refused_18 C hr _ _ _ _ h
    · replace h := h.2 q1
      refine v_iconst (v := (2 : Int32)) C dX9_refused_13 (by decide) ?_
      refine v_goto C 18 (by decide) dX9_refused_14 ?_
      exact so_X9_refused_18 C hr _ _ _ _ h
  · replace h := h.2 q2
    refine v_iconst (v := (1 : Int32)) C dX9_refused_5 (by decide) ?_
    refine v_goto C 18 (by decide) dX9_refused_6 ?_
    exact so_X9_refused_18 C hr _ _ _ _ h
set_option maxRecDepth 10000 in
set_option maxHeartbeats 4000000 in
theorem so_X9_refused {l : Launch} {E : EvT} (x1 : Int32) (x2 : Int32) (μ : MemT) (P : Int32 → MemT → Prop) (h : sp_X9_refused x1 x2 μ P) : MCi l E yX9_refused cX9_refused 3 (some .boolean) (rmN 0 0) [.ref (eAd E 9), .int x1, .int x2] μ P := by
  refine mc_entryi (by decide +kernel) (Nat.le_of_ble_eq_true rfl) (fun p e s m below meth c C hr => ?_)
  exact so_X9_refused_0 C hr x1 x2 μ h
set_option maxRecDepth 10000 in
set_option maxHeartbeats 4000000 in
theorem so_X9_isIn_0 {p : Program} {l : Launch} {e : Env} {s : State} {m : MethodId} {args : Array Value} {below : List Frame} {meth : Method} {c : Code} {E : EvT} {P : Int32 → MemT → Prop} (C : Cx p s m args meth c E cX9_isIn 6 RX9) (hr : meth.sig.returnType = (some .boolean)) (x0 : Int64) (x2 : Int64) (x4 : Int64) (μ : MemT) (h : t_X9_isIn_0 P x0 x2 x4 μ) : V p l e (rmN 0 0) s m args below meth c E 6 0 0 (MQ below (va_Qi P (wdP E) (eA E s.heap.size)) args s 0 0 (eA E s.heap.size)) 0 [(0, .long x0), (2, .long x2), (4, .long x4)] [] μ := by
  unfold t_X9_isIn_0 at h
  refine v_lload_n C 0 rfl rfl dX9_isIn_0 ?_
  refine v_lload_n C 1 rfl rfl dX9_isIn_1 ?_
  refine v_lcmp_lt C 17 (by decide) dX9_isIn_2 dX9_isIn_3 (fun q2 => ?_) (fun q2 => ?_)
  · replace h := h.1 q2
    refine v_iconst (v := (0 : Int32)) C dX9_isIn_17 (by decide) ?_
    exact v_zret C hr nb0 h dX9_isIn_18
  · replace h := h.2 q2
    refine v_lload_n C 0 rfl rfl dX9_isIn_6 ?_
    refine v_lload C 2 rfl dX9_isIn_7 ?_
    refine v_lcmp_gt C 17 (by decide) dX9_isIn_9 dX9_isIn_10 (fun q1 => ?_) (fun q1 => ?_)
    · replace h := h.1 q1
      refine v_iconst (v := (0 : Int32)) C dX9_isIn_17 (by decide) ?_
      exact v_zret C hr nb0 h dX9_isIn_18
    · replace h := h.2 q1
      refine v_iconst (v := (1 : Int32)) C dX9_isIn_13 (by decide) ?_
      refine v_goto C 18 (by decide) dX9_isIn_14 ?_
      exact v_zret C hr nb1 h dX9_isIn_18
set_option maxRecDepth 10000 in
set_option maxHeartbeats 4000000 in
theorem so_X9_isIn {l : Launch} {E : EvT} (x0 : Int64) (x2 : Int64) (x4 : Int64) (μ : MemT) (P : Int32 → MemT → Prop) (h : sp_X9_isIn x0 x2 x4 μ P) : MCi l E yX9_isIn cX9_isIn 6 (some .boolean) (rmN 0 0) [.long x0, .long x2, .long x4] μ P := by
  refine mc_entryi (by decide +kernel) (Nat.le_of_ble_eq_true rfl) (fun p e s m below meth c C hr => ?_)
  exact so_X9_isIn_0 C hr x0 x2 x4 μ h
set_option maxRecDepth 10000 in
set_option maxHeartbeats 4000000 in
theorem so_X9_isNoSign_0 {p : Program} {l : Launch} {e : Env} {s : State} {m : MethodId} {args : Array Value} {below : List Frame} {meth : Method} {c : Code} {E : EvT} {P : Int32 → MemT → Prop} (C : Cx p s m args meth c E cX9_isNoSign 2 RX9) (hr : meth.sig.returnType = (some .boolean)) (x1 : Int32) (μ : MemT) (h : t_X9_isNoSign_0 P x1 μ) : V p l e (rmN 0 0) s m args below meth c E 2 0 0 (MQ below (va_Qi P (wdP E) (eA E s.heap.size)) args s 0 0 (eA E s.heap.size)) 0 [(0, .ref (eAd E 9)), (1, .int x1)] [] μ := by
  unfold t_X9_isNoSign_0 at h
  refine v_iload_n C 1 rfl rfl dX9_isNoSign_0 ?_
  refine v_if_lt C 12 (by decide) dX9_isNoSign_1 (fun q2 => ?_) (fun q2 => ?_)
  · replace h := h.1 q2
    refine v_iconst (v := (1 : Int32)) C dX9_isNoSign_12 (by decide) ?_
    refine v_goto C 17 (by decide) dX9_isNoSign_13 ?_
    exact v_zret C hr nb1 h dX9_isNoSign_17
  · replace h := h.2 q2
    refine v_iload_n C 1 rfl rfl dX9_isNoSign_4 ?_
    refine v_aload_n C 0 rfl rfl dX9_isNoSign_5 ?_
    refine gf_X9_105 C dX9_isNoSign_6 ?_
    refine v_icmp_lt C 16 (by decide) dX9_isNoSign_9 (fun q1 => ?_) (fun q1 => ?_)
    · replace h := h.1 q1
      refine v_iconst (v := (0 : Int32)) C dX9_isNoSign_16 (by decide) ?_
      exact v_zret C hr nb0 h dX9_isNoSign_17
    · replace h := h.2 q1
      refine v_iconst (v := (1 : Int32)) C dX9_isNoSign_12 (by decide) ?_
      refine v_goto C 17 (by decide) dX9_isNoSign_13 ?_
      exact v_zret C hr nb1 h dX9_isNoSign_17
set_option maxRecDepth 10000 in
set_option maxHeartbeats 4000000 in
theorem so_X9_isNoSign {l : Launch} {E : EvT} (x1 : Int32) (μ : MemT) (P : Int32 → MemT → Prop) (h : sp_X9_isNoSign x1 μ P) : MCi l E yX9_isNoSign cX9_isNoSign 2 (some .boolean) (rmN 0 0) [.ref (eAd E 9), .int x1] μ P := by
  refine mc_entryi (by decide +kernel) (Nat.le_of_ble_eq_true rfl) (fun p e s m below meth c C hr => ?_)
  exact so_X9_isNoSign_0 C hr x1 μ h
set_option maxRecDepth 10000 in
set_option maxHeartbeats 4000000 in
theorem so_X9_sign_97 {p : Program} {l : Launch} {e : Env} {s : State} {m : MethodId} {args : Array Value} {below : List Frame} {meth : Method} {c : Code} {E : EvT} {P : Int32 → MemT → Prop} (C : Cx p s m args meth c E cX9_sign 10 RX9) (hr : meth.sig.returnType = (some .int)) (x1 : Int32) (x2 : Int64) (x4 : Int64) (x6 : Int64) (x8 : Int32) (x9 : Int32) (y1 : Int32) (y2 : Int32) (μ : MemT) (h : t_X9_sign_97 P x1 x2 x4 x6 x8 x9 y1 y2 μ) : V p l e (rmN 1 25) s m args below meth c E 10 0 0 (MQ below (va_Qi P (wdP E) (eA E s.heap.size)) args s 0 0 (eA E s.heap.size)) 97 [(0, .ref (eAd E 9)), (1, .int x1), (2, .long x2), (4, .long x4), (6, .long x6), (8, .int x8), (9, .int x9)] [.int y2, .int y1, .ref (eAd E 9)] μ := by
  unfold t_X9_sign_97 at h
  obtain ⟨P1, hs, h⟩ := h
  refine v_callVi C 9 [.int y1, .int y2] (by decide) rfl rfl rfl (so_X9_refused y1 y2 μ P1 hs) gw_X9_124 rfl rfl dd_X9_refused ⟨by decide, by decide⟩ rfl rfl (Nat.le_of_ble_eq_true rfl) ⟨by decide, by decide⟩ dX9_sign_97 (fun r4 μ2 q3 => ?_)
  replace h := h r4 μ2 q3
  refine v_if_eq C 105 (by decide) dX9_sign_100 (fun q19 => ?_) (fun q19 => ?_)
  · replace h := h.1 q19
    refine v_aload_n C 0 rfl rfl dX9_sign_105 ?_
    refine gf_X9_7 C dX9_sign_106 ?_
    refine v_aload_n C 0 rfl rfl dX9_sign_109 ?_
    refine gf_X9_105 C dX9_sign_110 ?_
    refine v_iload_n C 1 rfl rfl dX9_sign_113 ?_
    obtain ⟨b5, h⟩ := h
    refine v_iast C 45 (by decide) rfl b5 dX9_sign_114 ?_
    refine v_nmM (fun μ6 e_μ6 => ?_)
    replace h := h μ6 e_μ6
    refine v_aload_n C 0 rfl rfl dX9_sign_115 ?_
    refine gf_X9_13 C dX9_sign_116 ?_
    refine v_aload_n C 0 rfl rfl dX9_sign_119 ?_
    refine gf_X9_105 C dX9_sign_120 ?_
    refine v_lload_n C 2 rfl rfl dX9_sign_123 ?_
    obtain ⟨b7, h⟩ := h
    refine v_last C 46 (by decide) rfl b7 dX9_sign_124 ?_
    refine v_nmM (fun μ8 e_μ8 => ?_)
    replace h := h μ8 e_μ8
    refine v_aload_n C 0 rfl rfl dX9_sign_125 ?_
    refine gf_X9_17 C dX9_sign_126 ?_
    refine v_aload_n C 0 rfl rfl dX9_sign_129 ?_
    refine gf_X9_105 C dX9_sign_130 ?_
    refine v_lload C 3 rfl dX9_sign_133 ?_
    obtain ⟨b9, h⟩ := h
    refine v_last C 47 (by decide) rfl b9 dX9_sign_135 ?_
    refine v_nmM (fun μ10 e_μ10 => ?_)
    replace h := h μ10 e_μ10
    refine v_aload_n C 0 rfl rfl dX9_sign_136 ?_
    refine gf_X9_20 C dX9_sign_137 ?_
    refine v_aload_n C 0 rfl rfl dX9_sign_140 ?_
    refine gf_X9_105 C dX9_sign_141 ?_
    refine v_lload C 4 rfl dX9_sign_144 ?_
    obtain ⟨b11, h⟩ := h
    refine v_last C 48 (by decide) rfl b11 dX9_sign_146 ?_
    refine v_nmM (fun μ12 e_μ12 => ?_)
    replace h := h μ12 e_μ12
    refine v_aload_n C 0 rfl rfl dX9_sign_147 ?_
    refine gf_X9_23 C dX9_sign_148 ?_
    refine v_aload_n C 0 rfl rfl dX9_sign_151 ?_
    refine gf_X9_105 C dX9_sign_152 ?_
    refine v_iload C 5 rfl dX9_sign_155 ?_
    obtain ⟨b13, h⟩ := h
    refine v_iast C 49 (by decide) rfl b13 dX9_sign_157 ?_
    refine v_nmM (fun μ14 e_μ14 => ?_)
    replace h := h μ14 e_μ14
    refine v_aload_n C 0 rfl rfl dX9_sign_158 ?_
    refine gf_X9_30 C dX9_sign_159 ?_
    refine v_aload_n C 0 rfl rfl dX9_sign_162 ?_
    refine gf_X9_105 C dX9_sign_163 ?_
    refine v_iconst (v := (-1 : Int32)) C dX9_sign_166 (by decide) ?_
    obtain ⟨b15, h⟩ := h
    refine v_iast C 51 (by decide) rfl b15 dX9_sign_167 ?_
    refine v_nmM (fun μ16 e_μ16 => ?_)
    replace h := h μ16 e_μ16
    refine v_aload_n C 0 rfl rfl dX9_sign_168 ?_
    refine v_iconst (v := (0 : Int32)) C dX9_sign_169 (by decide) ?_
    refine pf_X9_128 C (by decide) dX9_sign_170 ?_
    refine v_nmM (fun μ17 e_μ17 => ?_)
    replace h := h μ17 e_μ17
    refine v_aload_n C 0 rfl rfl dX9_sign_173 ?_
    refine v_dup C rfl dX9_sign_174 ?_
    refine gf_X9_105 C dX9_sign_175 ?_
    refine v_iconst (v := (1 : Int32)) C dX9_sign_178 (by decide) ?_
    refine v_iadd C dX9_sign_179 ?_
    refine pf_X9_105 C dX9_sign_180 ?_
    refine v_nmM (fun μ18 e_μ18 => ?_)
    replace h := h μ18 e_μ18
    refine v_aload_n C 0 rfl rfl dX9_sign_183 ?_
    refine gf_X9_105 C dX9_sign_184 ?_
    refine v_iconst (v := (1 : Int32)) C dX9_sign_187 (by decide) ?_
    refine v_isub C dX9_sign_188 ?_
    exact v_iret C hr h dX9_sign_189
  · replace h := h.2 q19
    refine v_iconst (v := (0 : Int32)) C dX9_sign_103 (by decide) ?_
    exact v_iret C hr h dX9_sign_104
set_option maxRecDepth 10000 in
set_option maxHeartbeats 4000000 in
theorem so_X9_sign_82 {p : Program} {l : Launch} {e : Env} {s : State} {m : MethodId} {args : Array Value} {below : List Frame} {meth : Method} {c : Code} {E : EvT} {P : Int32 → MemT → Prop} (C : Cx p s m args meth c E cX9_sign 10 RX9) (hr : meth.sig.returnType = (some .int)) (x1 : Int32) (x2 : Int64) (x4 : Int64) (x6 : Int64) (x8 : Int32) (x9 : Int32) (y1 : Int32) (μ : MemT) (h : t_X9_sign_82 P x1 x2 x4 x6 x8 x9 y1 μ) : V p l e (rmN 1 25) s m args below meth c E 10 0 0 (MQ below (va_Qi P (wdP E) (eA E s.heap.size)) args s 0 0 (eA E s.heap.size)) 82 [(0, .ref (eAd E 9)), (1, .int x1), (2, .long x2), (4, .long x4), (6, .long x6), (8, .int x8), (9, .int x9)] [.int y1, .ref (eAd E 9)] μ := by
  unfold t_X9_sign_82 at h
  refine v_aload_n C 0 rfl rfl dX9_sign_82 ?_
  refine gf_X9_105 C dX9_sign_83 ?_
  refine v_sipush (v := (200 : Int32)) C dX9_sign_86 (by decide) ?_
  refine v_icmp_ne C 96 (by decide) dX9_sign_89 (fun q1 => ?_) (fun q1 => ?_)
  · replace h := h.1 q1
    refine v_iconst (v := (0 : Int32)) C dX9_sign_96 (by decide) ?_
    exact so_X9_sign_97 C hr _ _ _ _ _ _ _ _ _ h
  · replace h := h.2 q1
    refine v_iconst (v := (1 : Int32)) C dX9_sign_92 (by decide) ?_
    refine v_goto C 97 (by decide) dX9_sign_93 ?_
    exact so_X9_sign_97 C hr _ _ _ _ _ _ _ _ _ h
set_option maxRecDepth 10000 in
set_option maxHeartbeats 4000000 in
theorem so_X9_sign_69 {p : Program} {l : Launch} {e : Env} {s : State} {m : MethodId} {args : Array Value} {below : List Frame} {meth : Method} {c : Code} {E : EvT} {P : Int32 → MemT → Prop} (C : Cx p s m args meth c E cX9_sign 10 RX9) (hr : meth.sig.returnType = (some .int)) (x1 : Int32) (x2 : Int64) (x4 : Int64) (x6 : Int64) (x8 : Int32) (y0 : Int32) (μ : MemT) (h : t_X9_sign_69 P x1 x2 x4 x6 x8 y0 μ) : V p l e (rmN 1 25) s m args below meth c E 10 0 0 (MQ below (va_Qi P (wdP E) (eA E s.heap.size)) args s 0 0 (eA E s.heap.size)) 69 [(0, .ref (eAd E 9)), (1, .int x1), (2, .long x2), (4, .long x4), (6, .long x6), (8, .int x8)] [.int y0] μ := by
  unfold t_X9_sign_69 at h
  refine v_istore C [(9, .int y0), (0, .ref (eAd E 9)), (1, .int x1), (2, .long x2), (4, .long x4), (6, .long x6), (8, .int x8)] (by decide) rfl dX9_sign_69 ?_
  refine v_aload_n C 1 rfl rfl dX9_sign_71 ?_
  refine v_iload C 0 rfl dX9_sign_72 ?_
  refine v_if_ne C 81 (by decide) dX9_sign_74 (fun q1 => ?_) (fun q1 => ?_)
  · replace h := h.1 q1
    refine v_iconst (v := (0 : Int32)) C dX9_sign_81 (by decide) ?_
    refine v_sub C [1, 2, 3, 4, 5, 6, 0] rfl ?_
    exact so_X9_sign_82 C hr _ _ _ _ _ _ _ _ h
  · replace h := h.2 q1
    refine v_iconst (v := (1 : Int32)) C dX9_sign_77 (by decide) ?_
    refine v_goto C 82 (by decide) dX9_sign_78 ?_
    refine v_sub C [1, 2, 3, 4, 5, 6, 0] rfl ?_
    exact so_X9_sign_82 C hr _ _ _ _ _ _ _ _ h
set_option maxRecDepth 10000 in
set_option maxHeartbeats 4000000 in
theorem so_X9_sign_68 {p : Program} {l : Launch} {e : Env} {s : State} {m : MethodId} {args : Array Value} {below : List Frame} {meth : Method} {c : Code} {E : EvT} {P : Int32 → MemT → Prop} (C : Cx p s m args meth c E cX9_sign 10 RX9) (hr : meth.sig.returnType = (some .int)) (x1 : Int32) (x2 : Int64) (x4 : Int64) (x6 : Int64) (x8 : Int32) (μ : MemT) (h : t_X9_sign_68 P x1 x2 x4 x6 x8 μ) : V p l e (rmN 1 25) s m args below meth c E 10 0 0 (MQ below (va_Qi P (wdP E) (eA E s.heap.size)) args s 0 0 (eA E s.heap.size)) 68 [(0, .ref (eAd E 9)), (1, .int x1), (2, .long x2), (4, .long x4), (6, .long x6), (8, .int x8)] [] μ := by
  unfold t_X9_sign_68 at h
  refine v_iconst (v := (0 : Int32)) C dX9_sign_68 (by decide) ?_
  exact so_X9_sign_69 C hr _ _ _ _ _ _ _ h
set_option maxRecDepth 10000 in
set_option maxHeartbeats 4000000 in
theorem so_X9_sign_0 {p : Program} {l : Launch} {e : Env} {s : State} {m : MethodId} {args : Array Value} {below : List Frame} {meth : Method} {c : Code} {E : EvT} {P : Int32 → MemT → Prop} (C : Cx p s m args meth c E cX9_sign 10 RX9) (hr : meth.sig.returnType = (some .int)) (x1 : Int32) (x2 : Int64) (x4 : Int64) (x6 : Int64) (x8 : Int32) (μ : MemT) (h : t_X9_sign_0 P x1 x2 x4 x6 x8 μ) : V p l e (rmN 1 25) s m args below meth c E 10 0 0 (MQ below (va_Qi P (wdP E) (eA E s.heap.size)) args s 0 0 (eA E s.heap.size)) 0 [(0, .ref (eAd E 9)), (1, .int x1), (2, .long x2), (4, .long x4), (6, .long x6), (8, .int x8)] [] μ := by
  unfold t_X9_sign_0 at h
  refine v_iload_n C 1 rfl rfl dX9_sign_0 ?_
  refine v_i2l C dX9_sign_1 ?_
  refine v_lconst (v := (0 : Int64)) C dX9_sign_2 (by decide) ?_
  refine v_ldc2 C gc_X9_112 dX9_sign_3 ?_
  obtain ⟨P1, hs, h⟩ := h
  refine v_callSi C [.long x1.toInt64, .long (0 : Int64), .long (255 : Int64)] (so_X9_isIn x1.toInt64 (0 : Int64) (255 : Int64) μ P1 hs) gw_X9_114 rfl rfl dd_X9_isIn ⟨by decide, by decide⟩ rfl rfl (Nat.le_of_ble_eq_true rfl) ⟨by decide, by decide⟩ dX9_sign_6 (fun r4 μ2 q3 => ?_)
  replace h := h r4 μ2 q3
  refine v_if_eq C 68 (by decide) dX9_sign_9 (fun q25 => ?_) (fun q25 => ?_)
  · replace h := h.1 q25
    exact so_X9_sign_68 C hr _ _ _ _ _ _ h
  · replace h := h.2 q25
    refine v_lload_n C 2 rfl rfl dX9_sign_12 ?_
    refine v_ldc2 C gc_X9_118 dX9_sign_13 ?_
    refine v_ldc2 C gc_X9_120 dX9_sign_16 ?_
    obtain ⟨P5, hs, h⟩ := h
    refine v_callSi C [.long x2, .long (-1000000 : Int64), .long (1000000 : Int64)] (so_X9_isIn x2 (-1000000 : Int64) (1000000 : Int64) μ2 P5 hs) gw_X9_114 rfl rfl dd_X9_isIn ⟨by decide, by decide⟩ rfl rfl (Nat.le_of_ble_eq_true rfl) ⟨by decide, by decide⟩ dX9_sign_19 (fun r8 μ6 q7 => ?_)
    replace h := h r8 μ6 q7
    refine v_if_eq C 68 (by decide) dX9_sign_22 (fun q24 => ?_) (fun q24 => ?_)
    · replace h := h.1 q24
      exact so_X9_sign_68 C hr _ _ _ _ _ _ h
    · replace h := h.2 q24
      refine v_lload C 3 rfl dX9_sign_25 ?_
      refine v_ldc2 C gc_X9_118 dX9_sign_27 ?_
      refine v_ldc2 C gc_X9_120 dX9_sign_30 ?_
      obtain ⟨P9, hs, h⟩ := h
      refine v_callSi C [.long x4, .long (-1000000 : Int64), .long (1000000 : Int64)] (so_X9_isIn x4 (-1000000 : Int64) (1000000 : Int64) μ6 P9 hs) gw_X9_114 rfl rfl dd_X9_isIn ⟨by decide, by decide⟩ rfl rfl (Nat.le_of_ble_eq_true rfl) ⟨by decide, by decide⟩ dX9_sign_33 (fun r12 μ10 q11 => ?_)
      replace h := h r12 μ10 q11
      refine v_if_eq C 68 (by decide) dX9_sign_36 (fun q23 => ?_) (fun q23 => ?_)
      · replace h := h.1 q23
        exact so_X9_sign_68 C hr _ _ _ _ _ _ h
      · replace h := h.2 q23
        refine v_lload C 4 rfl dX9_sign_39 ?_
        refine v_lconst (v := (0 : Int64)) C dX9_sign_41 (by decide) ?_
        refine v_ldc2 C gc_X9_120 dX9_sign_42 ?_
        obtain ⟨P13, hs, h⟩ := h
        refine v_callSi C [.long x6, .long (0 : Int64), .long (1000000 : Int64)] (so_X9_isIn x6 (0 : Int64) (1000000 : Int64) μ10 P13 hs) gw_X9_114 rfl rfl dd_X9_isIn ⟨by decide, by decide⟩ rfl rfl (Nat.le_of_ble_eq_true rfl) ⟨by decide, by decide⟩ dX9_sign_45 (fun r16 μ14 q15 => ?_)
        replace h := h r16 μ14 q15
        refine v_if_eq C 68 (by decide) dX9_sign_48 (fun q22 => ?_) (fun q22 => ?_)
        · replace h := h.1 q22
          exact so_X9_sign_68 C hr _ _ _ _ _ _ h
        · replace h := h.2 q22
          refine v_iload C 5 rfl dX9_sign_51 ?_
          refine v_i2l C dX9_sign_53 ?_
          refine v_lconst (v := (1 : Int64)) C dX9_sign_54 (by decide) ?_
          refine v_ldc2 C gc_X9_122 dX9_sign_55 ?_
          obtain ⟨P17, hs, h⟩ := h
          refine v_callSi C [.long x8.toInt64, .long (1 : Int64), .long (1000 : Int64)] (so_X9_isIn x8.toInt64 (1 : Int64) (1000 : Int64) μ14 P17 hs) gw_X9_114 rfl rfl dd_X9_isIn ⟨by decide, by decide⟩ rfl rfl (Nat.le_of_ble_eq_true rfl) ⟨by decide, by decide⟩ dX9_sign_58 (fun r20 μ18 q19 => ?_)
          replace h := h r20 μ18 q19
          refine v_if_eq C 68 (by decide) dX9_sign_61 (fun q21 => ?_) (fun q21 => ?_)
          · replace h := h.1 q21
            exact so_X9_sign_68 C hr _ _ _ _ _ _ h
          · replace h := h.2 q21
            refine v_iconst (v := (1 : Int32)) C dX9_sign_64 (by decide) ?_
            refine v_goto C 69 (by decide) dX9_sign_65 ?_
            exact so_X9_sign_69 C hr _ _ _ _ _ _ _ h
set_option maxRecDepth 10000 in
set_option maxHeartbeats 4000000 in
theorem so_X9_sign {l : Launch} {E : EvT} (x1 : Int32) (x2 : Int64) (x4 : Int64) (x6 : Int64) (x8 : Int32) (μ : MemT) (P : Int32 → MemT → Prop) (h : sp_X9_sign x1 x2 x4 x6 x8 μ P) : MCi l E yX9_sign cX9_sign 10 (some .int) (rmN 1 25) [.ref (eAd E 9), .int x1, .long x2, .long x4, .long x6, .int x8] μ P := by
  refine mc_entryi (by decide +kernel) (Nat.le_of_ble_eq_true rfl) (fun p e s m below meth c C hr => ?_)
  exact so_X9_sign_0 C hr x1 x2 x4 x6 x8 μ h
set_option maxRecDepth 10000 in
set_option maxHeartbeats 4000000 in
theorem so_X9_turn_29 {p : Program} {l : Launch} {e : Env} {s : State} {m : MethodId} {args : Array Value} {below : List Frame} {meth : Method} {c : Code} {E : EvT} {P : Int32 → MemT → Prop} (C : Cx p s m args meth c E cX9_turn 4 RX9) (hr : meth.sig.returnType = (some .int)) (x1 : Int32) (x2 : Int32) (y0 : Int32) (μ : MemT) (h : t_X9_turn_29 P x1 x2 y0 μ) : V p l e (rmN 1 22) s m args below meth c E 4 0 0 (MQ below (va_Qi P (wdP E) (eA E s.heap.size)) args s 0 0 (eA E s.heap.size)) 29 [(0, .ref (eAd E 9)), (1, .int x1), (2, .int x2)] [.int y0] μ := by
  unfold t_X9_turn_29 at h
  refine v_istore_n C [(3, .int y0), (0, .ref (eAd E 9)), (1, .int x1), (2, .int x2)] rfl (by decide) rfl dX9_turn_29 ?_
  refine v_aload_n C 1 rfl rfl dX9_turn_30 ?_
  refine gf_X9_26 C dX9_turn_31 ?_
  refine v_iload_n C 2 rfl rfl dX9_turn_34 ?_
  refine v_iload_n C 3 rfl rfl dX9_turn_35 ?_
  obtain ⟨b1, h⟩ := h
  refine v_zast C 50 (by decide) rfl b1 dX9_turn_36 ?_
  refine v_nmM (fun μ2 e_μ2 => ?_)
  replace h := h μ2 e_μ2
  refine v_aload_n C 1 rfl rfl dX9_turn_37 ?_
  refine v_iconst (v := (0 : Int32)) C dX9_turn_38 (by decide) ?_
  refine pf_X9_128 C (by decide) dX9_turn_39 ?_
  refine v_nmM (fun μ3 e_μ3 => ?_)
  replace h := h μ3 e_μ3
  refine v_iload_n C 0 rfl rfl dX9_turn_42 ?_
  exact v_iret C hr h dX9_turn_43
set_option maxRecDepth 10000 in
set_option maxHeartbeats 4000000 in
theorem so_X9_turn_0 {p : Program} {l : Launch} {e : Env} {s : State} {m : MethodId} {args : Array Value} {below : List Frame} {meth : Method} {c : Code} {E : EvT} {P : Int32 → MemT → Prop} (C : Cx p s m args meth c E cX9_turn 4 RX9) (hr : meth.sig.returnType = (some .int)) (x1 : Int32) (x2 : Int32) (μ : MemT) (h : t_X9_turn_0 P x1 x2 μ) : V p l e (rmN 1 22) s m args below meth c E 4 0 0 (MQ below (va_Qi P (wdP E) (eA E s.heap.size)) args s 0 0 (eA E s.heap.size)) 0 [(0, .ref (eAd E 9)), (1, .int x1), (2, .int x2)] [] μ := by
  unfold t_X9_turn_0 at h
  refine v_aload_n C 0 rfl rfl dX9_turn_0 ?_
  refine v_aload_n C 0 rfl rfl dX9_turn_1 ?_
  refine v_iload_n C 1 rfl rfl dX9_turn_2 ?_
  obtain ⟨P1, hs, h⟩ := h
  refine v_callVi C 9 [.int x1] (by decide) rfl rfl rfl (so_X9_isNoSign x1 μ P1 hs) gw_X9_132 rfl rfl dd_X9_isNoSign ⟨by decide, by decide⟩ rfl rfl (Nat.le_of_ble_eq_true rfl) ⟨by decide, by decide⟩ dX9_turn_3 (fun r4 μ2 q3 => ?_)
  replace h := h r4 μ2 q3
  refine v_iconst (v := (0 : Int32)) C dX9_turn_6 (by decide) ?_
  obtain ⟨P5, hs, h⟩ := h
  refine v_callVi C 9 [.int r4, .int (0 : Int32)] (by decide) rfl rfl rfl (so_X9_refused r4 (0 : Int32) μ2 P5 hs) gw_X9_124 rfl rfl dd_X9_refused ⟨by decide, by decide⟩ rfl rfl (Nat.le_of_ble_eq_true rfl) ⟨by decide, by decide⟩ dX9_turn_7 (fun r8 μ6 q7 => ?_)
  replace h := h r8 μ6 q7
  refine v_if_eq C 15 (by decide) dX9_turn_10 (fun q11 => ?_) (fun q11 => ?_)
  · replace h := h.1 q11
    refine v_aload_n C 0 rfl rfl dX9_turn_15 ?_
    refine gf_X9_26 C dX9_turn_16 ?_
    refine v_iload_n C 1 rfl rfl dX9_turn_19 ?_
    obtain ⟨b9, h⟩ := h
    refine v_zald C 50 (by decide) rfl b9 dX9_turn_20 ?_
    refine v_if_eq C 28 (by decide) dX9_turn_21 (fun q10 => ?_) (fun q10 => ?_)
    · replace h := h.1 q10
      refine v_iconst (v := (0 : Int32)) C dX9_turn_28 (by decide) ?_
      exact so_X9_turn_29 C hr _ _ _ _ h
    · replace h := h.2 q10
      refine v_iconst (v := (1 : Int32)) C dX9_turn_24 (by decide) ?_
      refine v_goto C 29 (by decide) dX9_turn_25 ?_
      exact so_X9_turn_29 C hr _ _ _ _ h
  · replace h := h.2 q11
    refine v_iconst (v := (0 : Int32)) C dX9_turn_13 (by decide) ?_
    exact v_iret C hr h dX9_turn_14
set_option maxRecDepth 10000 in
set_option maxHeartbeats 4000000 in
theorem so_X9_turn {l : Launch} {E : EvT} (x1 : Int32) (x2 : Int32) (μ : MemT) (P : Int32 → MemT → Prop) (h : sp_X9_turn x1 x2 μ P) : MCi l E yX9_turn cX9_turn 4 (some .int) (rmN 1 22) [.ref (eAd E 9), .int x1, .int x2] μ P := by
  refine mc_entryi (by decide +kernel) (Nat.le_of_ble_eq_true rfl) (fun p e s m below meth c C hr => ?_)
  exact so_X9_turn_0 C hr x1 x2 μ h
set_option maxRecDepth 10000 in
set_option maxHeartbeats 4000000 in
theorem so_X9_map_119 {p : Program} {l : Launch} {e : Env} {s : State} {m : MethodId} {args : Array Value} {below : List Frame} {meth : Method} {c : Code} {E : EvT} {P : Int32 → MemT → Prop} (C : Cx p s m args meth c E cX9_map 8 RX9) (hr : meth.sig.returnType = (some .int)) (x1 : Int32) (x2 : Int32) (x3 : Int32) (x4 : Int32) (x5 : Int32) (x6 : Int32) (y0 : Int32) (μ : MemT) (h : t_X9_map_119 P x1 x2 x3 x4 x5 x6 y0 μ) : V p l e (rmN 1 25) s m args below meth c E 8 0 0 (MQ below (va_Qi P (wdP E) (eA E s.heap.size)) args s 0 0 (eA E s.heap.size)) 119 [(0, .ref (eAd E 9)), (1, .int x1), (2, .int x2), (3, .int x3), (4, .int x4), (5, .int x5), (6, .int x6)] [.int y0] μ := by
  unfold t_X9_map_119 at h
  refine v_istore C [(7, .int y0), (0, .ref (eAd E 9)), (1, .int x1), (2, .int x2), (3, .int x3), (4, .int x4), (5, .int x5), (6, .int x6)] (by decide) rfl dX9_map_119 ?_
  refine v_aload_n C 1 rfl rfl dX9_map_121 ?_
  refine gf_X9_33 C dX9_map_122 ?_
  refine v_iload C 7 rfl dX9_map_125 ?_
  refine v_iload_n C 4 rfl rfl dX9_map_127 ?_
  obtain ⟨b1, h⟩ := h
  refine v_iast C 52 (by decide) rfl b1 dX9_map_128 ?_
  refine v_nmM (fun μ2 e_μ2 => ?_)
  replace h := h μ2 e_μ2
  refine v_aload_n C 1 rfl rfl dX9_map_129 ?_
  refine gf_X9_36 C dX9_map_130 ?_
  refine v_iload C 7 rfl dX9_map_133 ?_
  refine v_iload C 5 rfl dX9_map_135 ?_
  obtain ⟨b3, h⟩ := h
  refine v_iast C 53 (by decide) rfl b3 dX9_map_137 ?_
  refine v_nmM (fun μ4 e_μ4 => ?_)
  replace h := h μ4 e_μ4
  refine v_aload_n C 1 rfl rfl dX9_map_138 ?_
  refine v_iconst (v := (0 : Int32)) C dX9_map_139 (by decide) ?_
  refine pf_X9_128 C (by decide) dX9_map_140 ?_
  refine v_nmM (fun μ5 e_μ5 => ?_)
  replace h := h μ5 e_μ5
  refine v_iload C 0 rfl dX9_map_143 ?_
  exact v_iret C hr h dX9_map_145
set_option maxRecDepth 10000 in
set_option maxHeartbeats 4000000 in
theorem so_X9_map_71 {p : Program} {l : Launch} {e : Env} {s : State} {m : MethodId} {args : Array Value} {below : List Frame} {meth : Method} {c : Code} {E : EvT} {P : Int32 → MemT → Prop} (C : Cx p s m args meth c E cX9_map 8 RX9) (hr : meth.sig.returnType = (some .int)) (x1 : Int32) (x2 : Int32) (x3 : Int32) (x4 : Int32) (x5 : Int32) (y1 : Int32) (μ : MemT) (h : t_X9_map_71 P x1 x2 x3 x4 x5 y1 μ) : V p l e (rmN 1 25) s m args below meth c E 8 0 0 (MQ below (va_Qi P (wdP E) (eA E s.heap.size)) args s 0 0 (eA E s.heap.size)) 71 [(0, .ref (eAd E 9)), (1, .int x1), (2, .int x2), (3, .int x3), (4, .int x4), (5, .int x5)] [.int y1, .ref (eAd E 9)] μ := by
  unfold t_X9_map_71 at h
  refine v_iload C 5 rfl dX9_map_71 ?_
  obtain ⟨P1, hs, h⟩ := h
  refine v_callVi C 9 [.int y1, .int x5] (by decide) rfl rfl rfl (so_X9_refused y1 x5 μ P1 hs) gw_X9_124 rfl rfl dd_X9_refused ⟨by decide, by decide⟩ rfl rfl (Nat.le_of_ble_eq_true rfl) ⟨by decide, by decide⟩ dX9_map_73 (fun r4 μ2 q3 => ?_)
  replace h := h r4 μ2 q3
  refine v_if_eq C 81 (by decide) dX9_map_76 (fun q9 => ?_) (fun q9 => ?_)
  · replace h := h.1 q9
    refine v_sipush (v := (256 : Int32)) C dX9_map_81 (by decide) ?_
    refine v_iload_n C 1 rfl rfl dX9_map_84 ?_
    refine v_imul C dX9_map_85 ?_
    refine v_iload_n C 2 rfl rfl dX9_map_86 ?_
    refine v_iadd C dX9_map_87 ?_
    refine v_istore C [(6, .int (((256 : Int32) * x1) + x2)), (0, .ref (eAd E 9)), (1, .int x1), (2, .int x2), (3, .int x3), (4, .int x4), (5, .int x5)] (by decide) rfl dX9_map_88 ?_
    refine v_aload_n C 1 rfl rfl dX9_map_90 ?_
    refine gf_X9_33 C dX9_map_91 ?_
    refine v_iload C 0 rfl dX9_map_94 ?_
    obtain ⟨b5, h⟩ := h
    refine v_iald C 52 (by decide) rfl b5 dX9_map_96 ?_
    refine v_if_ne C 104 (by decide) dX9_map_97 (fun q8 => ?_) (fun q8 => ?_)
    · replace h := h.1 q8
      refine v_aload_n C 1 rfl rfl dX9_map_104 ?_
      refine gf_X9_36 C dX9_map_105 ?_
      refine v_iload C 0 rfl dX9_map_108 ?_
      obtain ⟨b6, h⟩ := h
      refine v_iald C 53 (by decide) rfl b6 dX9_map_110 ?_
      refine v_if_ne C 118 (by decide) dX9_map_111 (fun q7 => ?_) (fun q7 => ?_)
      · replace h := h.1 q7
        refine v_iconst (v := (2 : Int32)) C dX9_map_118 (by decide) ?_
        refine v_sub C [1, 2, 3, 4, 5, 6, 0] rfl ?_
        exact so_X9_map_119 C hr _ _ _ _ _ _ _ _ h
      · replace h := h.2 q7
        refine v_iconst (v := (1 : Int32)) C dX9_map_114 (by decide) ?_
        refine v_goto C 119 (by decide) dX9_map_115 ?_
        refine v_sub C [1, 2, 3, 4, 5, 6, 0] rfl ?_
        exact so_X9_map_119 C hr _ _ _ _ _ _ _ _ h
    · replace h := h.2 q8
      refine v_iconst (v := (0 : Int32)) C dX9_map_100 (by decide) ?_
      refine v_goto C 119 (by decide) dX9_map_101 ?_
      refine v_sub C [1, 2, 3, 4, 5, 6, 0] rfl ?_
      exact so_X9_map_119 C hr _ _ _ _ _ _ _ _ h
  · replace h := h.2 q9
    refine v_iconst (v := (0 : Int32)) C dX9_map_79 (by decide) ?_
    exact v_iret C hr h dX9_map_80
set_option maxRecDepth 10000 in
set_option maxHeartbeats 4000000 in
theorem so_X9_map_66 {p : Program} {l : Launch} {e : Env} {s : State} {m : MethodId} {args : Array Value} {below : List Frame} {meth : Method} {c : Code} {E : EvT} {P : Int32 → MemT → Prop} (C : Cx p s m args meth c E cX9_map 8 RX9) (hr : meth.sig.returnType = (some .int)) (x1 : Int32) (x2 : Int32) (x3 : Int32) (x4 : Int32) (x5 : Int32) (μ : MemT) (h : t_X9_map_66 P x1 x2 x3 x4 x5 μ) : V p l e (rmN 1 25) s m args below meth c E 8 0 0 (MQ below (va_Qi P (wdP E) (eA E s.heap.size)) args s 0 0 (eA E s.heap.size)) 66 [(0, .ref (eAd E 9)), (1, .int x1), (2, .int x2), (3, .int x3), (4, .int x4), (5, .int x5)] [.ref (eAd E 9)] μ := by
  unfold t_X9_map_66 at h
  refine v_iconst (v := (1 : Int32)) C dX9_map_66 (by decide) ?_
  refine v_goto C 71 (by decide) dX9_map_67 ?_
  exact so_X9_map_71 C hr _ _ _ _ _ _ _ h
set_option maxRecDepth 10000 in
set_option maxHeartbeats 4000000 in
theorem so_X9_map_39 {p : Program} {l : Launch} {e : Env} {s : State} {m : MethodId} {args : Array Value} {below : List Frame} {meth : Method} {c : Code} {E : EvT} {P : Int32 → MemT → Prop} (C : Cx p s m args meth c E cX9_map 8 RX9) (hr : meth.sig.returnType = (some .int)) (x1 : Int32) (x2 : Int32) (x3 : Int32) (x4 : Int32) (y0 : Int32) (μ : MemT) (h : t_X9_map_39 P x1 x2 x3 x4 y0 μ) : V p l e (rmN 1 25) s m args below meth c E 8 0 0 (MQ below (va_Qi P (wdP E) (eA E s.heap.size)) args s 0 0 (eA E s.heap.size)) 39 [(0, .ref (eAd E 9)), (1, .int x1), (2, .int x2), (3, .int x3), (4, .int x4)] [.int y0] μ := by
  unfold t_X9_map_39 at h
  refine v_istore C [(5, .int y0), (0, .ref (eAd E 9)), (1, .int x1), (2, .int x2), (3, .int x3), (4, .int x4)] (by decide) rfl dX9_map_39 ?_
  refine v_aload_n C 1 rfl rfl dX9_map_41 ?_
  refine v_iload_n C 2 rfl rfl dX9_map_42 ?_
  refine v_i2l C dX9_map_43 ?_
  refine v_lconst (v := (0 : Int64)) C dX9_map_44 (by decide) ?_
  refine v_ldc2 C gc_X9_138 dX9_map_45 ?_
  obtain ⟨P1, hs, h⟩ := h
  refine v_callSi C [.long x1.toInt64, .long (0 : Int64), .long (3 : Int64)] (so_X9_isIn x1.toInt64 (0 : Int64) (3 : Int64) μ P1 hs) gw_X9_114 rfl rfl dd_X9_isIn ⟨by decide, by decide⟩ rfl rfl (Nat.le_of_ble_eq_true rfl) ⟨by decide, by decide⟩ dX9_map_48 (fun r4 μ2 q3 => ?_)
  replace h := h r4 μ2 q3
  refine v_if_eq C 66 (by decide) dX9_map_51 (fun q10 => ?_) (fun q10 => ?_)
  · replace h := h.1 q10
    refine v_sub C [1, 2, 3, 4, 5, 0] rfl ?_
    exact so_X9_map_66 C hr _ _ _ _ _ _ h
  · replace h := h.2 q10
    refine v_iload_n C 3 rfl rfl dX9_map_54 ?_
    refine v_i2l C dX9_map_55 ?_
    refine v_lconst (v := (0 : Int64)) C dX9_map_56 (by decide) ?_
    refine v_ldc2 C gc_X9_112 dX9_map_57 ?_
    obtain ⟨P5, hs, h⟩ := h
    refine v_callSi C [.long x2.toInt64, .long (0 : Int64), .long (255 : Int64)] (so_X9_isIn x2.toInt64 (0 : Int64) (255 : Int64) μ2 P5 hs) gw_X9_114 rfl rfl dd_X9_isIn ⟨by decide, by decide⟩ rfl rfl (Nat.le_of_ble_eq_true rfl) ⟨by decide, by decide⟩ dX9_map_60 (fun r8 μ6 q7 => ?_)
    replace h := h r8 μ6 q7
    refine v_if_ne C 70 (by decide) dX9_map_63 (fun q9 => ?_) (fun q9 => ?_)
    · replace h := h.1 q9
      refine v_iconst (v := (0 : Int32)) C dX9_map_70 (by decide) ?_
      refine v_sub C [1, 2, 3, 4, 5, 0] rfl ?_
      exact so_X9_map_71 C hr _ _ _ _ _ _ _ h
    · replace h := h.2 q9
      refine v_sub C [1, 2, 3, 4, 5, 0] rfl ?_
      exact so_X9_map_66 C hr _ _ _ _ _ _ h
set_option maxRecDepth 10000 in
set_option maxHeartbeats 4000000 in
theorem so_X9_map_38 {p : Program} {l : Launch} {e : Env} {s : State} {m : MethodId} {args : Array Value} {below : List Frame} {meth : Method} {c : Code} {E : EvT} {P : Int32 → MemT → Prop} (C : Cx p s m args meth c E cX9_map 8 RX9) (hr : meth.sig.returnType = (some .int)) (x1 : Int32) (x2 : Int32) (x3 : Int32) (x4 : Int32) (μ : MemT) (h : t_X9_map_38 P x1 x2 x3 x4 μ) : V p l e (rmN 1 25) s m args below meth c E 8 0 0 (MQ below (va_Qi P (wdP E) (eA E s.heap.size)) args s 0 0 (eA E s.heap.size)) 38 [(0, .ref (eAd E 9)), (1, .int x1), (2, .int x2), (3, .int x3), (4, .int x4)] [] μ := by
  unfold t_X9_map_38 at h
  refine v_iconst (v := (0 : Int32)) C dX9_map_38 (by decide) ?_
  exact so_X9_map_39 C hr _ _ _ _ _ _ h
set_option maxRecDepth 10000 in
set_option maxHeartbeats 4000000 in
theorem so_X9_map_34 {p : Program} {l : Launch} {e : Env} {s : State} {m : MethodId} {args : Array Value} {below : List Frame} {meth : Method} {c : Code} {E : EvT} {P : Int32 → MemT → Prop} (C : Cx p s m args meth c E cX9_map 8 RX9) (hr : meth.sig.returnType = (some .int)) (x1 : Int32) (x2 : Int32) (x3 : Int32) (x4 : Int32) (μ : MemT) (h : t_X9_map_34 P x1 x2 x3 x4 μ) : V p l e (rmN 1 25) s m args below meth c E 8 0 0 (MQ below (va_Qi P (wdP E) (eA E s.heap.size)) args s 0 0 (eA E s.heap.size)) 34 [(0, .ref (eAd E 9)), (1, .int x1), (2, .int x2), (3, .int x3), (4, .int x4)] [] μ := by
  unfold t_X9_map_34 at h
  refine v_iconst (v := (1 : Int32)) C dX9_map_34 (by decide) ?_
  refine v_goto C 39 (by decide) dX9_map_35 ?_
  exact so_X9_map_39 C hr _ _ _ _ _ _ h
set_option maxRecDepth 10000 in
set_option maxHeartbeats 4000000 in
theorem so_X9_map_0 {p : Program} {l : Launch} {e : Env} {s : State} {m : MethodId} {args : Array Value} {below : List Frame} {meth : Method} {c : Code} {E : EvT} {P : Int32 → MemT → Prop} (C : Cx p s m args meth c E cX9_map 8 RX9) (hr : meth.sig.returnType = (some .int)) (x1 : Int32) (x2 : Int32) (x3 : Int32) (x4 : Int32) (μ : MemT) (h : t_X9_map_0 P x1 x2 x3 x4 μ) : V p l e (rmN 1 25) s m args below meth c E 8 0 0 (MQ below (va_Qi P (wdP E) (eA E s.heap.size)) args s 0 0 (eA E s.heap.size)) 0 [(0, .ref (eAd E 9)), (1, .int x1), (2, .int x2), (3, .int x3), (4, .int x4)] [] μ := by
  unfold t_X9_map_0 at h
  refine v_iload_n C 3 rfl rfl dX9_map_0 ?_
  refine v_i2l C dX9_map_1 ?_
  refine v_lconst (v := (0 : Int64)) C dX9_map_2 (by decide) ?_
  refine v_ldc2 C gc_X9_136 dX9_map_3 ?_
  obtain ⟨P1, hs, h⟩ := h
  refine v_callSi C [.long x3.toInt64, .long (0 : Int64), .long (65535 : Int64)] (so_X9_isIn x3.toInt64 (0 : Int64) (65535 : Int64) μ P1 hs) gw_X9_114 rfl rfl dd_X9_isIn ⟨by decide, by decide⟩ rfl rfl (Nat.le_of_ble_eq_true rfl) ⟨by decide, by decide⟩ dX9_map_6 (fun r4 μ2 q3 => ?_)
  replace h := h r4 μ2 q3
  refine v_if_eq C 34 (by decide) dX9_map_9 (fun q12 => ?_) (fun q12 => ?_)
  · replace h := h.1 q12
    exact so_X9_map_34 C hr _ _ _ _ _ h
  · replace h := h.2 q12
    refine v_iload C 4 rfl dX9_map_12 ?_
    refine v_i2l C dX9_map_14 ?_
    refine v_lconst (v := (0 : Int64)) C dX9_map_15 (by decide) ?_
    refine v_ldc2 C gc_X9_136 dX9_map_16 ?_
    obtain ⟨P5, hs, h⟩ := h
    refine v_callSi C [.long x4.toInt64, .long (0 : Int64), .long (65535 : Int64)] (so_X9_isIn x4.toInt64 (0 : Int64) (65535 : Int64) μ2 P5 hs) gw_X9_114 rfl rfl dd_X9_isIn ⟨by decide, by decide⟩ rfl rfl (Nat.le_of_ble_eq_true rfl) ⟨by decide, by decide⟩ dX9_map_19 (fun r8 μ6 q7 => ?_)
    replace h := h r8 μ6 q7
    refine v_if_eq C 34 (by decide) dX9_map_22 (fun q11 => ?_) (fun q11 => ?_)
    · replace h := h.1 q11
      exact so_X9_map_34 C hr _ _ _ _ _ h
    · replace h := h.2 q11
      refine v_iload_n C 3 rfl rfl dX9_map_25 ?_
      refine v_if_ne C 38 (by decide) dX9_map_26 (fun q10 => ?_) (fun q10 => ?_)
      · replace h := h.1 q10
        exact so_X9_map_38 C hr _ _ _ _ _ h
      · replace h := h.2 q10
        refine v_iload C 4 rfl dX9_map_29 ?_
        refine v_if_le C 38 (by decide) dX9_map_31 (fun q9 => ?_) (fun q9 => ?_)
        · replace h := h.1 q9
          exact so_X9_map_38 C hr _ _ _ _ _ h
        · replace h := h.2 q9
          exact so_X9_map_34 C hr _ _ _ _ _ h
set_option maxRecDepth 10000 in
set_option maxHeartbeats 4000000 in
theorem so_X9_map {l : Launch} {E : EvT} (x1 : Int32) (x2 : Int32) (x3 : Int32) (x4 : Int32) (μ : MemT) (P : Int32 → MemT → Prop) (h : sp_X9_map x1 x2 x3 x4 μ P) : MCi l E yX9_map cX9_map 8 (some .int) (rmN 1 25) [.ref (eAd E 9), .int x1, .int x2, .int x3, .int x4] μ P := by
  refine mc_entryi (by decide +kernel) (Nat.le_of_ble_eq_true rfl) (fun p e s m below meth c C hr => ?_)
  exact so_X9_map_0 C hr x1 x2 x3 x4 μ h
set_option maxRecDepth 10000 in
set_option maxHeartbeats 4000000 in
theorem so_X9_tag_25 {p : Program} {l : Launch} {e : Env} {s : State} {m : MethodId} {args : Array Value} {below : List Frame} {meth : Method} {c : Code} {E : EvT} {P : Int32 → MemT → Prop} (C : Cx p s m args meth c E cX9_tag 4 RX9) (hr : meth.sig.returnType = (some .int)) (x1 : Int32) (x2 : Int32) (y1 : Int32) (y2 : Int32) (μ : MemT) (h : t_X9_tag_25 P x1 x2 y1 y2 μ) : V p l e (rmN 1 25) s m args below meth c E 4 0 0 (MQ below (va_Qi P (wdP E) (eA E s.heap.size)) args s 0 0 (eA E s.heap.size)) 25 [(0, .ref (eAd E 9)), (1, .int x1), (2, .int x2)] [.int y2, .int y1, .ref (eAd E 9)] μ := by
  unfold t_X9_tag_25 at h
  obtain ⟨P1, hs, h⟩ := h
  refine v_callVi C 9 [.int y1, .int y2] (by decide) rfl rfl rfl (so_X9_refused y1 y2 μ P1 hs) gw_X9_124 rfl rfl dd_X9_refused ⟨by decide, by decide⟩ rfl rfl (Nat.le_of_ble_eq_true rfl) ⟨by decide, by decide⟩ dX9_tag_25 (fun r4 μ2 q3 => ?_)
  replace h := h r4 μ2 q3
  refine v_if_eq C 33 (by decide) dX9_tag_28 (fun q9 => ?_) (fun q9 => ?_)
  · replace h := h.1 q9
    refine v_aload_n C 0 rfl rfl dX9_tag_33 ?_
    refine gf_X9_30 C dX9_tag_34 ?_
    refine v_iload_n C 1 rfl rfl dX9_tag_37 ?_
    obtain ⟨b5, h⟩ := h
    refine v_iald C 51 (by decide) rfl b5 dX9_tag_38 ?_
    refine v_istore_n C [(3, .int (μ2.1 51 x1.toNatClampNeg)), (0, .ref (eAd E 9)), (1, .int x1), (2, .int x2)] rfl (by decide) rfl dX9_tag_39 ?_
    refine v_aload_n C 1 rfl rfl dX9_tag_40 ?_
    refine gf_X9_30 C dX9_tag_41 ?_
    refine v_iload_n C 2 rfl rfl dX9_tag_44 ?_
    refine v_iload_n C 3 rfl rfl dX9_tag_45 ?_
    obtain ⟨b6, h⟩ := h
    refine v_iast C 51 (by decide) rfl b6 dX9_tag_46 ?_
    refine v_nmM (fun μ7 e_μ7 => ?_)
    replace h := h μ7 e_μ7
    refine v_aload_n C 1 rfl rfl dX9_tag_47 ?_
    refine v_iconst (v := (0 : Int32)) C dX9_tag_48 (by decide) ?_
    refine pf_X9_128 C (by decide) dX9_tag_49 ?_
    refine v_nmM (fun μ8 e_μ8 => ?_)
    replace h := h μ8 e_μ8
    refine v_iload_n C 0 rfl rfl dX9_tag_52 ?_
    exact v_iret C hr h dX9_tag_53
  · replace h := h.2 q9
    refine v_iconst (v := (0 : Int32)) C dX9_tag_31 (by decide) ?_
    exact v_iret C hr h dX9_tag_32
set_option maxRecDepth 10000 in
set_option maxHeartbeats 4000000 in
theorem so_X9_tag_0 {p : Program} {l : Launch} {e : Env} {s : State} {m : MethodId} {args : Array Value} {below : List Frame} {meth : Method} {c : Code} {E : EvT} {P : Int32 → MemT → Prop} (C : Cx p s m args meth c E cX9_tag 4 RX9) (hr : meth.sig.returnType = (some .int)) (x1 : Int32) (x2 : Int32) (μ : MemT) (h : t_X9_tag_0 P x1 x2 μ) : V p l e (rmN 1 25) s m args below meth c E 4 0 0 (MQ below (va_Qi P (wdP E) (eA E s.heap.size)) args s 0 0 (eA E s.heap.size)) 0 [(0, .ref (eAd E 9)), (1, .int x1), (2, .int x2)] [] μ := by
  unfold t_X9_tag_0 at h
  refine v_aload_n C 0 rfl rfl dX9_tag_0 ?_
  refine v_aload_n C 0 rfl rfl dX9_tag_1 ?_
  refine v_iload_n C 1 rfl rfl dX9_tag_2 ?_
  obtain ⟨P1, hs, h⟩ := h
  refine v_callVi C 9 [.int x1] (by decide) rfl rfl rfl (so_X9_isNoSign x1 μ P1 hs) gw_X9_132 rfl rfl dd_X9_isNoSign ⟨by decide, by decide⟩ rfl rfl (Nat.le_of_ble_eq_true rfl) ⟨by decide, by decide⟩ dX9_tag_3 (fun r4 μ2 q3 => ?_)
  replace h := h r4 μ2 q3
  refine v_iload_n C 2 rfl rfl dX9_tag_6 ?_
  refine v_i2l C dX9_tag_7 ?_
  refine v_ldc2 C gc_X9_140 dX9_tag_8 ?_
  refine v_ldc2 C gc_X9_142 dX9_tag_11 ?_
  obtain ⟨P5, hs, h⟩ := h
  refine v_callSi C [.long x2.toInt64, .long (-1 : Int64), .long (100 : Int64)] (so_X9_isIn x2.toInt64 (-1 : Int64) (100 : Int64) μ2 P5 hs) gw_X9_114 rfl rfl dd_X9_isIn ⟨by decide, by decide⟩ rfl rfl (Nat.le_of_ble_eq_true rfl) ⟨by decide, by decide⟩ dX9_tag_14 (fun r8 μ6 q7 => ?_)
  replace h := h r8 μ6 q7
  refine v_if_ne C 24 (by decide) dX9_tag_17 (fun q9 => ?_) (fun q9 => ?_)
  · replace h := h.1 q9
    refine v_iconst (v := (0 : Int32)) C dX9_tag_24 (by decide) ?_
    exact so_X9_tag_25 C hr _ _ _ _ _ h
  · replace h := h.2 q9
    refine v_iconst (v := (1 : Int32)) C dX9_tag_20 (by decide) ?_
    refine v_goto C 25 (by decide) dX9_tag_21 ?_
    exact so_X9_tag_25 C hr _ _ _ _ _ h
set_option maxRecDepth 10000 in
set_option maxHeartbeats 4000000 in
theorem so_X9_tag {l : Launch} {E : EvT} (x1 : Int32) (x2 : Int32) (μ : MemT) (P : Int32 → MemT → Prop) (h : sp_X9_tag x1 x2 μ P) : MCi l E yX9_tag cX9_tag 4 (some .int) (rmN 1 25) [.ref (eAd E 9), .int x1, .int x2] μ P := by
  refine mc_entryi (by decide +kernel) (Nat.le_of_ble_eq_true rfl) (fun p e s m below meth c C hr => ?_)
  exact so_X9_tag_0 C hr x1 x2 μ h
set_option maxRecDepth 10000 in
set_option maxHeartbeats 4000000 in
theorem so_X9_isNear_15 {p : Program} {l : Launch} {e : Env} {s : State} {m : MethodId} {args : Array Value} {below : List Frame} {meth : Method} {c : Code} {E : EvT} {P : Int32 → MemT → Prop} (C : Cx p s m args meth c E cX9_isNear 8 RX9) (hr : meth.sig.returnType = (some .boolean)) (x0 : Int64) (x2 : Int64) (x4 : Int64) (y0 : Int64) (μ : MemT) (h : t_X9_isNear_15 P x0 x2 x4 y0 μ) : V p l e (rmN 0 0) s m args below meth c E 8 0 0 (MQ below (va_Qi P (wdP E) (eA E s.heap.size)) args s 0 0 (eA E s.heap.size)) 15 [(0, .long x0), (2, .long x2), (4, .long x4)] [.long y0] μ := by
  unfold t_X9_isNear_15 at h
  refine v_lstore C [(6, .long y0), (0, .long x0), (2, .long x2), (4, .long x4)] (by decide) rfl dX9_isNear_15 ?_
  refine v_ldc2 C gc_X9_144 dX9_isNear_17 ?_
  refine v_lload C 0 rfl dX9_isNear_20 ?_
  refine v_lmul C dX9_isNear_22 ?_
  refine v_lload C 3 rfl dX9_isNear_23 ?_
  refine v_lcmp_gt C 33 (by decide) dX9_isNear_25 dX9_isNear_26 (fun q1 => ?_) (fun q1 => ?_)
  · replace h := h.1 q1
    refine v_iconst (v := (0 : Int32)) C dX9_isNear_33 (by decide) ?_
    exact v_zret C hr nb0 h dX9_isNear_34
  · replace h := h.2 q1
    refine v_iconst (v := (1 : Int32)) C dX9_isNear_29 (by decide) ?_
    refine v_goto C 34 (by decide) dX9_isNear_30 ?_
    exact v_zret C hr nb1 h dX9_isNear_34
set_option maxRecDepth 10000 in
set_option maxHeartbeats 4000000 in
theorem so_X9_isNear_0 {p : Program} {l : Launch} {e : Env} {s : State} {m : MethodId} {args : Array Value} {below : List Frame} {meth : Method} {c : Code} {E : EvT} {P : Int32 → MemT → Prop} (C : Cx p s m args meth c E cX9_isNear 8 RX9) (hr : meth.sig.returnType = (some .boolean)) (x0 : Int64) (x2 : Int64) (x4 : Int64) (μ : MemT) (h : t_X9_isNear_0 P x0 x2 x4 μ) : V p l e (rmN 0 0) s m args below meth c E 8 0 0 (MQ below (va_Qi P (wdP E) (eA E s.heap.size)) args s 0 0 (eA E s.heap.size)) 0 [(0, .long x0), (2, .long x2), (4, .long x4)] [] μ := by
  unfold t_X9_isNear_0 at h
  refine v_lload_n C 0 rfl rfl dX9_isNear_0 ?_
  refine v_lload_n C 1 rfl rfl dX9_isNear_1 ?_
  refine v_lcmp_ge C 12 (by decide) dX9_isNear_2 dX9_isNear_3 (fun q1 => ?_) (fun q1 => ?_)
  · replace h := h.1 q1
    refine v_lload_n C 0 rfl rfl dX9_isNear_12 ?_
    refine v_lload_n C 1 rfl rfl dX9_isNear_13 ?_
    refine v_lsub C dX9_isNear_14 ?_
    exact so_X9_isNear_15 C hr _ _ _ _ _ h
  · replace h := h.2 q1
    refine v_lload_n C 1 rfl rfl dX9_isNear_6 ?_
    refine v_lload_n C 0 rfl rfl dX9_isNear_7 ?_
    refine v_lsub C dX9_isNear_8 ?_
    refine v_goto C 15 (by decide) dX9_isNear_9 ?_
    exact so_X9_isNear_15 C hr _ _ _ _ _ h
set_option maxRecDepth 10000 in
set_option maxHeartbeats 4000000 in
theorem so_X9_isNear {l : Launch} {E : EvT} (x0 : Int64) (x2 : Int64) (x4 : Int64) (μ : MemT) (P : Int32 → MemT → Prop) (h : sp_X9_isNear x0 x2 x4 μ P) : MCi l E yX9_isNear cX9_isNear 8 (some .boolean) (rmN 0 0) [.long x0, .long x2, .long x4] μ P := by
  refine mc_entryi (by decide +kernel) (Nat.le_of_ble_eq_true rfl) (fun p e s m below meth c C hr => ?_)
  exact so_X9_isNear_0 C hr x0 x2 x4 μ h
set_option maxRecDepth 10000 in
set_option maxHeartbeats 4000000 in
theorem so_X9_spell_292 {p : Program} {l : Launch} {e : Env} {s : State} {m : MethodId} {args : Array Value} {below : List Frame} {meth : Method} {c : Code} {E : EvT} {P : MemT → Prop} (C : Cx p s m args meth c E cX9_spell 5 RX9) (hr : meth.sig.returnType = none) {K68 : Int32 → Int32 → MemT → Prop} (hK68 : ∀ (x1 : Int32) (x2 : Int32) (μ : MemT), K68 x1 x2 μ → V p l e (rmN 1 27) s m args below meth c E 5 0 0 (MQ below (va_Qv P (wdP E) (eA E s.heap.size)) args s 0 0 (eA E s.heap.size)) 68 [(0, .ref (eAd E 9)), (1, .int x1), (2, .int x2)] [] μ) {K179 : Int32 → Int32 → Int32 → MemT → Prop} (hK179 : ∀ (x1 : Int32) (x2 : Int32) (x3 : Int32) (μ : MemT), K179 x1 x2 x3 μ → V p l e (rmN 1 27) s m args below meth c E 5 0 0 (MQ below (va_Qv P (wdP E) (eA E s.heap.size)) args s 0 0 (eA E s.heap.size)) 179 [(0, .ref (eAd E 9)), (1, .int x1), (2, .int x2), (3, .int x3)] [] μ) (x1 : Int32) (x2 : Int32) (x3 : Int32) (y0 : Int32) (μ : MemT) (h : t_X9_spell_292 K68 K179 P x1 x2 x3 y0 μ) : V p l e (rmN 1 27) s m args below meth c E 5 0 0 (MQ below (va_Qv P (wdP E) (eA E s.heap.size)) args s 0 0 (eA E s.heap.size)) 292 [(0, .ref (eAd E 9)), (1, .int x1), (2, .int x2), (3, .int x3)] [.int y0] μ := by
  unfold t_X9_spell_292 at h
  refine v_istore C [(4, .int y0), (0, .ref (eAd E 9)), (1, .int x1), (2, .int x2), (3, .int x3)] (by decide) rfl dX9_spell_292 ?_
  refine v_aload_n C 1 rfl rfl dX9_spell_294 ?_
  refine gf_X9_51 C dX9_spell_295 ?_
  refine v_iload_n C 2 rfl rfl dX9_spell_298 ?_
  refine v_iload C 0 rfl dX9_spell_299 ?_
  refine v_if_eq C 308 (by decide) dX9_spell_301 (fun q6 => ?_) (fun q6 => ?_)
  · replace h := h.1 q6
    refine v_aload_n C 1 rfl rfl dX9_spell_308 ?_
    refine gf_X9_51 C dX9_spell_309 ?_
    refine v_iload_n C 2 rfl rfl dX9_spell_312 ?_
    obtain ⟨b1, h⟩ := h
    refine v_iald C 58 (by decide) rfl b1 dX9_spell_313 ?_
    obtain ⟨b2, h⟩ := h
    refine v_iast C 58 (by decide) rfl b2 dX9_spell_314 ?_
    refine v_nmM (fun μ3 e_μ3 => ?_)
    replace h := h μ3 e_μ3
    refine v_iinc (v := (x3 + (-1))) C 4 [(3, .int (x3 + (-1))), (4, .int y0), (0, .ref (eAd E 9)), (1, .int x1), (2, .int x2)] rfl (by rw [iM1]) (by decide) rfl dX9_spell_315 ?_
    refine v_goto C 179 (by decide) dX9_spell_318 ?_
    refine v_sub C [2, 3, 4, 0] rfl ?_
    exact hK179 _ _ _ _ h
  · replace h := h.2 q6
    refine v_iload_n C 4 rfl rfl dX9_spell_304 ?_
    refine v_goto C 314 (by decide) dX9_spell_305 ?_
    obtain ⟨b4, h⟩ := h
    refine v_iast C 58 (by decide) rfl b4 dX9_spell_314 ?_
    refine v_nmM (fun μ5 e_μ5 => ?_)
    replace h := h μ5 e_μ5
    refine v_iinc (v := (x3 + (-1))) C 4 [(3, .int (x3 + (-1))), (4, .int y0), (0, .ref (eAd E 9)), (1, .int x1), (2, .int x2)] rfl (by rw [iM1]) (by decide) rfl dX9_spell_315 ?_
    refine v_goto C 179 (by decide) dX9_spell_318 ?_
    refine v_sub C [2, 3, 4, 0] rfl ?_
    exact hK179 _ _ _ _ h
set_option maxRecDepth 10000 in
set_option maxHeartbeats 4000000 in
theorem so_X9_spell_291 {p : Program} {l : Launch} {e : Env} {s : State} {m : MethodId} {args : Array Value} {below : List Frame} {meth : Method} {c : Code} {E : EvT} {P : MemT → Prop} (C : Cx p s m args meth c E cX9_spell 5 RX9) (hr : meth.sig.returnType = none) {K68 : Int32 → Int32 → MemT → Prop} (hK68 : ∀ (x1 : Int32) (x2 : Int32) (μ : MemT), K68 x1 x2 μ → V p l e (rmN 1 27) s m args below meth c E 5 0 0 (MQ below (va_Qv P (wdP E) (eA E s.heap.size)) args s 0 0 (eA E s.heap.size)) 68 [(0, .ref (eAd E 9)), (1, .int x1), (2, .int x2)] [] μ) {K179 : Int32 → Int32 → Int32 → MemT → Prop} (hK179 : ∀ (x1 : Int32) (x2 : Int32) (x3 : Int32) (μ : MemT), K179 x1 x2 x3 μ → V p l e (rmN 1 27) s m args below meth c E 5 0 0 (MQ below (va_Qv P (wdP E) (eA E s.heap.size)) args s 0 0 (eA E s.heap.size)) 179 [(0, .ref (eAd E 9)), (1, .int x1), (2, .int x2), (3, .int x3)] [] μ) (x1 : Int32) (x2 : Int32) (x3 : Int32) (μ : MemT) (h : t_X9_spell_291 K68 K179 P x1 x2 x3 μ) : V p l e (rmN 1 27) s m args below meth c E 5 0 0 (MQ below (va_Qv P (wdP E) (eA E s.heap.size)) args s 0 0 (eA E s.heap.size)) 291 [(0, .ref (eAd E 9)), (1, .int x1), (2, .int x2), (3, .int x3)] [] μ := by
  unfold t_X9_spell_291 at h
  refine v_iconst (v := (0 : Int32)) C dX9_spell_291 (by decide) ?_
  exact so_X9_spell_292 C hr hK68 hK179 _ _ _ _ _ h
set_option maxRecDepth 10000 in
set_option maxHeartbeats 4000000 in
theorem so_X9_spell_139 {p : Program} {l : Launch} {e : Env} {s : State} {m : MethodId} {args : Array Value} {below : List Frame} {meth : Method} {c : Code} {E : EvT} {P : MemT → Prop} (C : Cx p s m args meth c E cX9_spell 5 RX9) (hr : meth.sig.returnType = none) {K68 : Int32 → Int32 → MemT → Prop} (hK68 : ∀ (x1 : Int32) (x2 : Int32) (μ : MemT), K68 x1 x2 μ → V p l e (rmN 1 27) s m args below meth c E 5 0 0 (MQ below (va_Qv P (wdP E) (eA E s.heap.size)) args s 0 0 (eA E s.heap.size)) 68 [(0, .ref (eAd E 9)), (1, .int x1), (2, .int x2)] [] μ) {K179 : Int32 → Int32 → Int32 → MemT → Prop} (hK179 : ∀ (x1 : Int32) (x2 : Int32) (x3 : Int32) (μ : MemT), K179 x1 x2 x3 μ → V p l e (rmN 1 27) s m args below meth c E 5 0 0 (MQ below (va_Qv P (wdP E) (eA E s.heap.size)) args s 0 0 (eA E s.heap.size)) 179 [(0, .ref (eAd E 9)), (1, .int x1), (2, .int x2), (3, .int x3)] [] μ) (x1 : Int32) (x2 : Int32) (y1 : Int32) (y2 : Int32) (μ : MemT) (h : t_X9_spell_139 K68 K179 P x1 x2 y1 y2 μ) : V p l e (rmN 1 27) s m args below meth c E 5 0 0 (MQ below (va_Qv P (wdP E) (eA E s.heap.size)) args s 0 0 (eA E s.heap.size)) 139 [(0, .ref (eAd E 9)), (1, .int x1), (2, .int x2)] [.int y2, .int y1, .ref (eAd E 57)] μ := by
  unfold t_X9_spell_139 at h
  obtain ⟨b1, h⟩ := h
  refine v_iast C 57 (by decide) rfl b1 dX9_spell_139 ?_
  refine v_nmM (fun μ2 e_μ2 => ?_)
  replace h := h μ2 e_μ2
  refine v_aload_n C 0 rfl rfl dX9_spell_140 ?_
  refine gf_X9_54 C dX9_spell_141 ?_
  refine v_iload_n C 1 rfl rfl dX9_spell_144 ?_
  refine v_iconst (v := (-1 : Int32)) C dX9_spell_145 (by decide) ?_
  obtain ⟨b3, h⟩ := h
  refine v_iast C 59 (by decide) rfl b3 dX9_spell_146 ?_
  refine v_nmM (fun μ4 e_μ4 => ?_)
  replace h := h μ4 e_μ4
  refine v_aload_n C 0 rfl rfl dX9_spell_147 ?_
  refine gf_X9_57 C dX9_spell_148 ?_
  refine v_iload_n C 1 rfl rfl dX9_spell_151 ?_
  refine v_iconst (v := (-1 : Int32)) C dX9_spell_152 (by decide) ?_
  obtain ⟨b5, h⟩ := h
  refine v_iast C 60 (by decide) rfl b5 dX9_spell_153 ?_
  refine v_nmM (fun μ6 e_μ6 => ?_)
  replace h := h μ6 e_μ6
  refine v_aload_n C 0 rfl rfl dX9_spell_154 ?_
  refine gf_X9_60 C dX9_spell_155 ?_
  refine v_iload_n C 1 rfl rfl dX9_spell_158 ?_
  refine v_iconst (v := (-1 : Int32)) C dX9_spell_159 (by decide) ?_
  obtain ⟨b7, h⟩ := h
  refine v_iast C 61 (by decide) rfl b7 dX9_spell_160 ?_
  refine v_nmM (fun μ8 e_μ8 => ?_)
  replace h := h μ8 e_μ8
  refine v_aload_n C 0 rfl rfl dX9_spell_161 ?_
  refine gf_X9_63 C dX9_spell_162 ?_
  refine v_iload_n C 1 rfl rfl dX9_spell_165 ?_
  refine v_iconst (v := (0 : Int32)) C dX9_spell_166 (by decide) ?_
  obtain ⟨b9, h⟩ := h
  refine v_zast C 62 (by decide) rfl b9 dX9_spell_167 ?_
  refine v_nmM (fun μ10 e_μ10 => ?_)
  replace h := h μ10 e_μ10
  refine v_aload_n C 0 rfl rfl dX9_spell_168 ?_
  refine gf_X9_51 C dX9_spell_169 ?_
  refine v_iload_n C 1 rfl rfl dX9_spell_172 ?_
  refine v_iconst (v := (-1 : Int32)) C dX9_spell_173 (by decide) ?_
  obtain ⟨b11, h⟩ := h
  refine v_iast C 58 (by decide) rfl b11 dX9_spell_174 ?_
  refine v_nmM (fun μ12 e_μ12 => ?_)
  replace h := h μ12 e_μ12
  refine v_iload_n C 1 rfl rfl dX9_spell_175 ?_
  refine v_iconst (v := (1 : Int32)) C dX9_spell_176 (by decide) ?_
  refine v_isub C dX9_spell_177 ?_
  refine v_istore_n C [(3, .int (x1 - (1 : Int32))), (0, .ref (eAd E 9)), (1, .int x1), (2, .int x2)] rfl (by decide) rfl dX9_spell_178 ?_
  refine v_sub C [1, 2, 3, 0] rfl ?_
  exact hK179 _ _ _ _ h
set_option maxRecDepth 10000 in
set_option maxHeartbeats 4000000 in
theorem so_X9_spell_116 {p : Program} {l : Launch} {e : Env} {s : State} {m : MethodId} {args : Array Value} {below : List Frame} {meth : Method} {c : Code} {E : EvT} {P : MemT → Prop} (C : Cx p s m args meth c E cX9_spell 5 RX9) (hr : meth.sig.returnType = none) {K68 : Int32 → Int32 → MemT → Prop} (hK68 : ∀ (x1 : Int32) (x2 : Int32) (μ : MemT), K68 x1 x2 μ → V p l e (rmN 1 27) s m args below meth c E 5 0 0 (MQ below (va_Qv P (wdP E) (eA E s.heap.size)) args s 0 0 (eA E s.heap.size)) 68 [(0, .ref (eAd E 9)), (1, .int x1), (2, .int x2)] [] μ) {K179 : Int32 → Int32 → Int32 → MemT → Prop} (hK179 : ∀ (x1 : Int32) (x2 : Int32) (x3 : Int32) (μ : MemT), K179 x1 x2 x3 μ → V p l e (rmN 1 27) s m args below meth c E 5 0 0 (MQ below (va_Qv P (wdP E) (eA E s.heap.size)) args s 0 0 (eA E s.heap.size)) 179 [(0, .ref (eAd E 9)), (1, .int x1), (2, .int x2), (3, .int x3)] [] μ) (x1 : Int32) (x2 : Int32) (y1 : Int32) (y2 : Int32) (μ : MemT) (h : t_X9_spell_116 K68 K179 P x1 x2 y1 y2 μ) : V p l e (rmN 1 27) s m args below meth c E 5 0 0 (MQ below (va_Qv P (wdP E) (eA E s.heap.size)) args s 0 0 (eA E s.heap.size)) 116 [(0, .ref (eAd E 9)), (1, .int x1), (2, .int x2)] [.int y2, .int y1, .ref (eAd E 56)] μ := by
  unfold t_X9_spell_116 at h
  obtain ⟨b1, h⟩ := h
  refine v_iast C 56 (by decide) rfl b1 dX9_spell_116 ?_
  refine v_nmM (fun μ2 e_μ2 => ?_)
  replace h := h μ2 e_μ2
  refine v_aload_n C 0 rfl rfl dX9_spell_117 ?_
  refine gf_X9_48 C dX9_spell_118 ?_
  refine v_iload_n C 1 rfl rfl dX9_spell_121 ?_
  refine v_iload_n C 2 rfl rfl dX9_spell_122 ?_
  refine v_sipush (v := (1024 : Int32)) C dX9_spell_123 (by decide) ?_
  refine v_icmp_ge C 138 (by decide) dX9_spell_126 (fun q4 => ?_) (fun q4 => ?_)
  · replace h := h.1 q4
    refine v_iconst (v := (0 : Int32)) C dX9_spell_138 (by decide) ?_
    exact so_X9_spell_139 C hr hK68 hK179 _ _ _ _ _ h
  · replace h := h.2 q4
    refine v_aload_n C 0 rfl rfl dX9_spell_129 ?_
    refine gf_X9_36 C dX9_spell_130 ?_
    refine v_iload_n C 2 rfl rfl dX9_spell_133 ?_
    obtain ⟨b3, h⟩ := h
    refine v_iald C 53 (by decide) rfl b3 dX9_spell_134 ?_
    refine v_goto C 139 (by decide) dX9_spell_135 ?_
    exact so_X9_spell_139 C hr hK68 hK179 _ _ _ _ _ h
set_option maxRecDepth 10000 in
set_option maxHeartbeats 4000000 in
theorem so_X9_spell_93 {p : Program} {l : Launch} {e : Env} {s : State} {m : MethodId} {args : Array Value} {below : List Frame} {meth : Method} {c : Code} {E : EvT} {P : MemT → Prop} (C : Cx p s m args meth c E cX9_spell 5 RX9) (hr : meth.sig.returnType = none) {K68 : Int32 → Int32 → MemT → Prop} (hK68 : ∀ (x1 : Int32) (x2 : Int32) (μ : MemT), K68 x1 x2 μ → V p l e (rmN 1 27) s m args below meth c E 5 0 0 (MQ below (va_Qv P (wdP E) (eA E s.heap.size)) args s 0 0 (eA E s.heap.size)) 68 [(0, .ref (eAd E 9)), (1, .int x1), (2, .int x2)] [] μ) {K179 : Int32 → Int32 → Int32 → MemT → Prop} (hK179 : ∀ (x1 : Int32) (x2 : Int32) (x3 : Int32) (μ : MemT), K179 x1 x2 x3 μ → V p l e (rmN 1 27) s m args below meth c E 5 0 0 (MQ below (va_Qv P (wdP E) (eA E s.heap.size)) args s 0 0 (eA E s.heap.size)) 179 [(0, .ref (eAd E 9)), (1, .int x1), (2, .int x2), (3, .int x3)] [] μ) (x1 : Int32) (x2 : Int32) (μ : MemT) (h : t_X9_spell_93 K68 K179 P x1 x2 μ) : V p l e (rmN 1 27) s m args below meth c E 5 0 0 (MQ below (va_Qv P (wdP E) (eA E s.heap.size)) args s 0 0 (eA E s.heap.size)) 93 [(0, .ref (eAd E 9)), (1, .int x1), (2, .int x2)] [] μ := by
  unfold t_X9_spell_93 at h
  refine v_aload_n C 0 rfl rfl dX9_spell_93 ?_
  refine gf_X9_45 C dX9_spell_94 ?_
  refine v_iload_n C 1 rfl rfl dX9_spell_97 ?_
  refine v_iload_n C 2 rfl rfl dX9_spell_98 ?_
  refine v_sipush (v := (1024 : Int32)) C dX9_spell_99 (by decide) ?_
  refine v_icmp_ge C 114 (by decide) dX9_spell_102 (fun q2 => ?_) (fun q2 => ?_)
  · replace h := h.1 q2
    refine v_ldc C gc_X9_146 dX9_spell_114 ?_
    exact so_X9_spell_116 C hr hK68 hK179 _ _ _ _ _ h
  · replace h := h.2 q2
    refine v_aload_n C 0 rfl rfl dX9_spell_105 ?_
    refine gf_X9_33 C dX9_spell_106 ?_
    refine v_iload_n C 2 rfl rfl dX9_spell_109 ?_
    obtain ⟨b1, h⟩ := h
    refine v_iald C 52 (by decide) rfl b1 dX9_spell_110 ?_
    refine v_goto C 116 (by decide) dX9_spell_111 ?_
    exact so_X9_spell_116 C hr hK68 hK179 _ _ _ _ _ h
set_option maxRecDepth 10000 in
set_option maxHeartbeats 4000000 in
theorem so_X9_spell_29 {p : Program} {l : Launch} {e : Env} {s : State} {m : MethodId} {args : Array Value} {below : List Frame} {meth : Method} {c : Code} {E : EvT} {P : MemT → Prop} (C : Cx p s m args meth c E cX9_spell 5 RX9) (hr : meth.sig.returnType = none) {K68 : Int32 → Int32 → MemT → Prop} (hK68 : ∀ (x1 : Int32) (x2 : Int32) (μ : MemT), K68 x1 x2 μ → V p l e (rmN 1 27) s m args below meth c E 5 0 0 (MQ below (va_Qv P (wdP E) (eA E s.heap.size)) args s 0 0 (eA E s.heap.size)) 68 [(0, .ref (eAd E 9)), (1, .int x1), (2, .int x2)] [] μ) {K179 : Int32 → Int32 → Int32 → MemT → Prop} (hK179 : ∀ (x1 : Int32) (x2 : Int32) (x3 : Int32) (μ : MemT), K179 x1 x2 x3 μ → V p l e (rmN 1 27) s m args below meth c E 5 0 0 (MQ below (va_Qv P (wdP E) (eA E s.heap.size)) args s 0 0 (eA E s.heap.size)) 179 [(0, .ref (eAd E 9)), (1, .int x1), (2, .int x2), (3, .int x3)] [] μ) (x1 : Int32) (y1 : Int32) (y2 : Int64) (μ : MemT) (h : t_X9_spell_29 K68 K179 P x1 y1 y2 μ) : V p l e (rmN 1 27) s m args below meth c E 5 0 0 (MQ below (va_Qv P (wdP E) (eA E s.heap.size)) args s 0 0 (eA E s.heap.size)) 29 [(0, .ref (eAd E 9)), (1, .int x1)] [.long y2, .int y1, .ref (eAd E 54)] μ := by
  unfold t_X9_spell_29 at h
  obtain ⟨b1, h⟩ := h
  refine v_last C 54 (by decide) rfl b1 dX9_spell_29 ?_
  refine v_nmM (fun μ2 e_μ2 => ?_)
  replace h := h μ2 e_μ2
  refine v_aload_n C 0 rfl rfl dX9_spell_30 ?_
  refine gf_X9_42 C dX9_spell_31 ?_
  refine v_iload_n C 1 rfl rfl dX9_spell_34 ?_
  refine v_aload_n C 0 rfl rfl dX9_spell_35 ?_
  refine gf_X9_26 C dX9_spell_36 ?_
  refine v_iload_n C 1 rfl rfl dX9_spell_39 ?_
  obtain ⟨b3, h⟩ := h
  refine v_zald C 50 (by decide) rfl b3 dX9_spell_40 ?_
  refine v_if_eq C 54 (by decide) dX9_spell_41 (fun q12 => ?_) (fun q12 => ?_)
  · replace h := h.1 q12
    refine v_aload_n C 0 rfl rfl dX9_spell_54 ?_
    refine gf_X9_17 C dX9_spell_55 ?_
    refine v_iload_n C 1 rfl rfl dX9_spell_58 ?_
    obtain ⟨b4, h⟩ := h
    refine v_lald C 47 (by decide) rfl b4 dX9_spell_59 ?_
    obtain ⟨b5, h⟩ := h
    refine v_last C 55 (by decide) rfl b5 dX9_spell_60 ?_
    refine v_nmM (fun μ6 e_μ6 => ?_)
    replace h := h μ6 e_μ6
    refine v_aload_n C 0 rfl rfl dX9_spell_61 ?_
    refine gf_X9_7 C dX9_spell_62 ?_
    refine v_iload_n C 1 rfl rfl dX9_spell_65 ?_
    obtain ⟨b7, h⟩ := h
    refine v_iald C 45 (by decide) rfl b7 dX9_spell_66 ?_
    refine v_istore_n C [(2, .int (μ6.1 45 x1.toNatClampNeg)), (0, .ref (eAd E 9)), (1, .int x1)] rfl (by decide) rfl dX9_spell_67 ?_
    refine v_sub C [1, 2, 0] rfl ?_
    exact hK68 _ _ _ h
  · replace h := h.2 q12
    refine v_aload_n C 0 rfl rfl dX9_spell_44 ?_
    refine gf_X9_13 C dX9_spell_45 ?_
    refine v_iload_n C 1 rfl rfl dX9_spell_48 ?_
    obtain ⟨b8, h⟩ := h
    refine v_lald C 46 (by decide) rfl b8 dX9_spell_49 ?_
    refine v_lneg C dX9_spell_50 ?_
    refine v_goto C 60 (by decide) dX9_spell_51 ?_
    obtain ⟨b9, h⟩ := h
    refine v_last C 55 (by decide) rfl b9 dX9_spell_60 ?_
    refine v_nmM (fun μ10 e_μ10 => ?_)
    replace h := h μ10 e_μ10
    refine v_aload_n C 0 rfl rfl dX9_spell_61 ?_
    refine gf_X9_7 C dX9_spell_62 ?_
    refine v_iload_n C 1 rfl rfl dX9_spell_65 ?_
    obtain ⟨b11, h⟩ := h
    refine v_iald C 45 (by decide) rfl b11 dX9_spell_66 ?_
    refine v_istore_n C [(2, .int (μ10.1 45 x1.toNatClampNeg)), (0, .ref (eAd E 9)), (1, .int x1)] rfl (by decide) rfl dX9_spell_67 ?_
    refine v_sub C [1, 2, 0] rfl ?_
    exact hK68 _ _ _ h
set_option maxRecDepth 10000 in
set_option maxHeartbeats 4000000 in
theorem so_X9_spell_179 {p : Program} {l : Launch} {e : Env} {s : State} {m : MethodId} {args : Array Value} {below : List Frame} {meth : Method} {c : Code} {E : EvT} {P : MemT → Prop} (C : Cx p s m args meth c E cX9_spell 5 RX9) (hr : meth.sig.returnType = none) {K68 : Int32 → Int32 → MemT → Prop} (hK68 : ∀ (x1 : Int32) (x2 : Int32) (μ : MemT), K68 x1 x2 μ → V p l e (rmN 1 27) s m args below meth c E 5 0 0 (MQ below (va_Qv P (wdP E) (eA E s.heap.size)) args s 0 0 (eA E s.heap.size)) 68 [(0, .ref (eAd E 9)), (1, .int x1), (2, .int x2)] [] μ) {K179 : Int32 → Int32 → Int32 → MemT → Prop} (hK179 : ∀ (x1 : Int32) (x2 : Int32) (x3 : Int32) (μ : MemT), K179 x1 x2 x3 μ → V p l e (rmN 1 27) s m args below meth c E 5 0 0 (MQ below (va_Qv P (wdP E) (eA E s.heap.size)) args s 0 0 (eA E s.heap.size)) 179 [(0, .ref (eAd E 9)), (1, .int x1), (2, .int x2), (3, .int x3)] [] μ) (x1 : Int32) (x2 : Int32) (x3 : Int32) (μ : MemT) (h : t_X9_spell_179 K68 K179 P x1 x2 x3 μ) : V p l e (rmN 1 27) s m args below meth c E 5 0 0 (MQ below (va_Qv P (wdP E) (eA E s.heap.size)) args s 0 0 (eA E s.heap.size)) 179 [(0, .ref (eAd E 9)), (1, .int x1), (2, .int x2), (3, .int x3)] [] μ := by
  unfold t_X9_spell_179 at h
  refine v_iload_n C 3 rfl rfl dX9_spell_179 ?_
  refine v_if_lt C 321 (by decide) dX9_spell_180 (fun q28 => ?_) (fun q28 => ?_)
  · replace h := h.1 q28
    exact v_vret C hr h dX9_spell_321
  · replace h := h.2 q28
    refine v_aload_n C 0 rfl rfl dX9_spell_183 ?_
    refine gf_X9_51 C dX9_spell_184 ?_
    refine v_iload_n C 3 rfl rfl dX9_spell_187 ?_
    obtain ⟨b1, h⟩ := h
    refine v_iald C 58 (by decide) rfl b1 dX9_spell_188 ?_
    refine v_iconst (v := (-1 : Int32)) C dX9_spell_189 (by decide) ?_
    refine v_icmp_ne C 291 (by decide) dX9_spell_190 (fun q27 => ?_) (fun q27 => ?_)
    · replace h := h.1 q27
      exact so_X9_spell_291 C hr hK68 hK179 _ _ _ _ h
    · replace h := h.2 q27
      refine v_aload_n C 0 rfl rfl dX9_spell_193 ?_
      refine gf_X9_26 C dX9_spell_194 ?_
      refine v_iload_n C 3 rfl rfl dX9_spell_197 ?_
      obtain ⟨b2, h⟩ := h
      refine v_zald C 50 (by decide) rfl b2 dX9_spell_198 ?_
      refine v_aload_n C 0 rfl rfl dX9_spell_199 ?_
      refine gf_X9_26 C dX9_spell_200 ?_
      refine v_iload_n C 1 rfl rfl dX9_spell_203 ?_
      obtain ⟨b3, h⟩ := h
      refine v_zald C 50 (by decide) rfl b3 dX9_spell_204 ?_
      refine v_icmp_ne C 291 (by decide) dX9_spell_205 (fun q26 => ?_) (fun q26 => ?_)
      · replace h := h.1 q26
        exact so_X9_spell_291 C hr hK68 hK179 _ _ _ _ h
      · replace h := h.2 q26
        refine v_aload_n C 0 rfl rfl dX9_spell_208 ?_
        refine gf_X9_45 C dX9_spell_209 ?_
        refine v_iload_n C 3 rfl rfl dX9_spell_212 ?_
        obtain ⟨b4, h⟩ := h
        refine v_iald C 56 (by decide) rfl b4 dX9_spell_213 ?_
        refine v_aload_n C 0 rfl rfl dX9_spell_214 ?_
        refine gf_X9_45 C dX9_spell_215 ?_
        refine v_iload_n C 1 rfl rfl dX9_spell_218 ?_
        obtain ⟨b5, h⟩ := h
        refine v_iald C 56 (by decide) rfl b5 dX9_spell_219 ?_
        refine v_icmp_ne C 291 (by decide) dX9_spell_220 (fun q25 => ?_) (fun q25 => ?_)
        · replace h := h.1 q25
          exact so_X9_spell_291 C hr hK68 hK179 _ _ _ _ h
        · replace h := h.2 q25
          refine v_aload_n C 0 rfl rfl dX9_spell_223 ?_
          refine gf_X9_48 C dX9_spell_224 ?_
          refine v_iload_n C 3 rfl rfl dX9_spell_227 ?_
          obtain ⟨b6, h⟩ := h
          refine v_iald C 57 (by decide) rfl b6 dX9_spell_228 ?_
          refine v_aload_n C 0 rfl rfl dX9_spell_229 ?_
          refine gf_X9_48 C dX9_spell_230 ?_
          refine v_iload_n C 1 rfl rfl dX9_spell_233 ?_
          obtain ⟨b7, h⟩ := h
          refine v_iald C 57 (by decide) rfl b7 dX9_spell_234 ?_
          refine v_icmp_ne C 291 (by decide) dX9_spell_235 (fun q24 => ?_) (fun q24 => ?_)
          · replace h := h.1 q24
            exact so_X9_spell_291 C hr hK68 hK179 _ _ _ _ h
          · replace h := h.2 q24
            refine v_aload_n C 0 rfl rfl dX9_spell_238 ?_
            refine gf_X9_39 C dX9_spell_239 ?_
            refine v_iload_n C 1 rfl rfl dX9_spell_242 ?_
            obtain ⟨b8, h⟩ := h
            refine v_lald C 54 (by decide) rfl b8 dX9_spell_243 ?_
            refine v_aload_n C 0 rfl rfl dX9_spell_244 ?_
            refine gf_X9_39 C dX9_spell_245 ?_
            refine v_iload_n C 3 rfl rfl dX9_spell_248 ?_
            obtain ⟨b9, h⟩ := h
            refine v_lald C 54 (by decide) rfl b9 dX9_spell_249 ?_
            refine v_aload_n C 0 rfl rfl dX9_spell_250 ?_
            refine gf_X9_20 C dX9_spell_251 ?_
            refine v_iload_n C 3 rfl rfl dX9_spell_254 ?_
            obtain ⟨b10, h⟩ := h
            refine v_lald C 48 (by decide) rfl b10 dX9_spell_255 ?_
            obtain ⟨P11, hs, h⟩ := h
            refine v_callSi C [.long (μ.2.1 54 x1.toNatClampNeg), .long (μ.2.1 54 x3.toNatClampNeg), .long (μ.2.1 48 x3.toNatClampNeg)] (so_X9_isNear (μ.2.1 54 x1.toNatClampNeg) (μ.2.1 54 x3.toNatClampNeg) (μ.2.1 48 x3.toNatClampNeg) μ P11 hs) gw_X9_147 rfl rfl dd_X9_isNear ⟨by decide, by decide⟩ rfl rfl (Nat.le_of_ble_eq_true rfl) ⟨by decide, by decide⟩ dX9_spell_256 (fun r14 μ12 q13 => ?_)
            replace h := h r14 μ12 q13
            refine v_if_eq C 291 (by decide) dX9_spell_259 (fun q23 => ?_) (fun q23 => ?_)
            · replace h := h.1 q23
              exact so_X9_spell_291 C hr hK68 hK179 _ _ _ _ h
            · replace h := h.2 q23
              refine v_aload_n C 0 rfl rfl dX9_spell_262 ?_
              refine gf_X9_42 C dX9_spell_263 ?_
              refine v_iload_n C 1 rfl rfl dX9_spell_266 ?_
              obtain ⟨b15, h⟩ := h
              refine v_lald C 55 (by decide) rfl b15 dX9_spell_267 ?_
              refine v_aload_n C 0 rfl rfl dX9_spell_268 ?_
              refine gf_X9_42 C dX9_spell_269 ?_
              refine v_iload_n C 3 rfl rfl dX9_spell_272 ?_
              obtain ⟨b16, h⟩ := h
              refine v_lald C 55 (by decide) rfl b16 dX9_spell_273 ?_
              refine v_aload_n C 0 rfl rfl dX9_spell_274 ?_
              refine gf_X9_23 C dX9_spell_275 ?_
              refine v_iload_n C 3 rfl rfl dX9_spell_278 ?_
              obtain ⟨b17, h⟩ := h
              refine v_iald C 49 (by decide) rfl b17 dX9_spell_279 ?_
              refine v_i2l C dX9_spell_280 ?_
              obtain ⟨P18, hs, h⟩ := h
              refine v_callSi C [.long (μ12.2.1 55 x1.toNatClampNeg), .long (μ12.2.1 55 x3.toNatClampNeg), .long ((μ12.1 49 x3.toNatClampNeg).toInt64)] (so_X9_isNear (μ12.2.1 55 x1.toNatClampNeg) (μ12.2.1 55 x3.toNatClampNeg) ((μ12.1 49 x3.toNatClampNeg).toInt64) μ12 P18 hs) gw_X9_147 rfl rfl dd_X9_isNear ⟨by decide, by decide⟩ rfl rfl (Nat.le_of_ble_eq_true rfl) ⟨by decide, by decide⟩ dX9_spell_281 (fun r21 μ19 q20 => ?_)
              replace h := h r21 μ19 q20
              refine v_if_eq C 291 (by decide) dX9_spell_284 (fun q22 => ?_) (fun q22 => ?_)
              · replace h := h.1 q22
                exact so_X9_spell_291 C hr hK68 hK179 _ _ _ _ h
              · replace h := h.2 q22
                refine v_iconst (v := (1 : Int32)) C dX9_spell_287 (by decide) ?_
                refine v_goto C 292 (by decide) dX9_spell_288 ?_
                exact so_X9_spell_292 C hr hK68 hK179 _ _ _ _ _ h
set_option maxRecDepth 10000 in
set_option maxHeartbeats 4000000 in
theorem so_X9_spell_68 {p : Program} {l : Launch} {e : Env} {s : State} {m : MethodId} {args : Array Value} {below : List Frame} {meth : Method} {c : Code} {E : EvT} {P : MemT → Prop} (C : Cx p s m args meth c E cX9_spell 5 RX9) (hr : meth.sig.returnType = none) {K68 : Int32 → Int32 → MemT → Prop} (hK68 : ∀ (x1 : Int32) (x2 : Int32) (μ : MemT), K68 x1 x2 μ → V p l e (rmN 1 27) s m args below meth c E 5 0 0 (MQ below (va_Qv P (wdP E) (eA E s.heap.size)) args s 0 0 (eA E s.heap.size)) 68 [(0, .ref (eAd E 9)), (1, .int x1), (2, .int x2)] [] μ) {K179 : Int32 → Int32 → Int32 → MemT → Prop} (hK179 : ∀ (x1 : Int32) (x2 : Int32) (x3 : Int32) (μ : MemT), K179 x1 x2 x3 μ → V p l e (rmN 1 27) s m args below meth c E 5 0 0 (MQ below (va_Qv P (wdP E) (eA E s.heap.size)) args s 0 0 (eA E s.heap.size)) 179 [(0, .ref (eAd E 9)), (1, .int x1), (2, .int x2), (3, .int x3)] [] μ) (x1 : Int32) (x2 : Int32) (μ : MemT) (h : t_X9_spell_68 K68 K179 P x1 x2 μ) : V p l e (rmN 1 27) s m args below meth c E 5 0 0 (MQ below (va_Qv P (wdP E) (eA E s.heap.size)) args s 0 0 (eA E s.heap.size)) 68 [(0, .ref (eAd E 9)), (1, .int x1), (2, .int x2)] [] μ := by
  unfold t_X9_spell_68 at h
  refine v_iload_n C 2 rfl rfl dX9_spell_68 ?_
  refine v_sipush (v := (1024 : Int32)) C dX9_spell_69 (by decide) ?_
  refine v_icmp_ge C 93 (by decide) dX9_spell_72 (fun q3 => ?_) (fun q3 => ?_)
  · replace h := h.1 q3
    exact so_X9_spell_93 C hr hK68 hK179 _ _ _ h
  · replace h := h.2 q3
    refine v_aload_n C 0 rfl rfl dX9_spell_75 ?_
    refine gf_X9_33 C dX9_spell_76 ?_
    refine v_iload_n C 2 rfl rfl dX9_spell_79 ?_
    obtain ⟨b1, h⟩ := h
    refine v_iald C 52 (by decide) rfl b1 dX9_spell_80 ?_
    refine v_if_ne C 93 (by decide) dX9_spell_81 (fun q2 => ?_) (fun q2 => ?_)
    · replace h := h.1 q2
      exact so_X9_spell_93 C hr hK68 hK179 _ _ _ h
    · replace h := h.2 q2
      refine v_iload_n C 2 rfl rfl dX9_spell_84 ?_
      refine v_sipush (v := (256 : Int32)) C dX9_spell_85 (by decide) ?_
      refine v_iadd C dX9_spell_88 ?_
      refine v_istore_n C [(2, .int (x2 + (256 : Int32))), (0, .ref (eAd E 9)), (1, .int x1)] rfl (by decide) rfl dX9_spell_89 ?_
      refine v_goto C 68 (by decide) dX9_spell_90 ?_
      refine v_sub C [1, 2, 0] rfl ?_
      exact hK68 _ _ _ h
set_option maxRecDepth 10000 in
set_option maxHeartbeats 4000000 in
theorem so_X9_spell_0 {p : Program} {l : Launch} {e : Env} {s : State} {m : MethodId} {args : Array Value} {below : List Frame} {meth : Method} {c : Code} {E : EvT} {P : MemT → Prop} (C : Cx p s m args meth c E cX9_spell 5 RX9) (hr : meth.sig.returnType = none) {K68 : Int32 → Int32 → MemT → Prop} (hK68 : ∀ (x1 : Int32) (x2 : Int32) (μ : MemT), K68 x1 x2 μ → V p l e (rmN 1 27) s m args below meth c E 5 0 0 (MQ below (va_Qv P (wdP E) (eA E s.heap.size)) args s 0 0 (eA E s.heap.size)) 68 [(0, .ref (eAd E 9)), (1, .int x1), (2, .int x2)] [] μ) {K179 : Int32 → Int32 → Int32 → MemT → Prop} (hK179 : ∀ (x1 : Int32) (x2 : Int32) (x3 : Int32) (μ : MemT), K179 x1 x2 x3 μ → V p l e (rmN 1 27) s m args below meth c E 5 0 0 (MQ below (va_Qv P (wdP E) (eA E s.heap.size)) args s 0 0 (eA E s.heap.size)) 179 [(0, .ref (eAd E 9)), (1, .int x1), (2, .int x2), (3, .int x3)] [] μ) (x1 : Int32) (μ : MemT) (h : t_X9_spell_0 K68 K179 P x1 μ) : V p l e (rmN 1 27) s m args below meth c E 5 0 0 (MQ below (va_Qv P (wdP E) (eA E s.heap.size)) args s 0 0 (eA E s.heap.size)) 0 [(0, .ref (eAd E 9)), (1, .int x1)] [] μ := by
  unfold t_X9_spell_0 at h
  refine v_aload_n C 0 rfl rfl dX9_spell_0 ?_
  refine gf_X9_39 C dX9_spell_1 ?_
  refine v_iload_n C 1 rfl rfl dX9_spell_4 ?_
  refine v_aload_n C 0 rfl rfl dX9_spell_5 ?_
  refine gf_X9_26 C dX9_spell_6 ?_
  refine v_iload_n C 1 rfl rfl dX9_spell_9 ?_
  obtain ⟨b1, h⟩ := h
  refine v_zald C 50 (by decide) rfl b1 dX9_spell_10 ?_
  refine v_if_eq C 23 (by decide) dX9_spell_11 (fun q4 => ?_) (fun q4 => ?_)
  · replace h := h.1 q4
    refine v_aload_n C 0 rfl rfl dX9_spell_23 ?_
    refine gf_X9_13 C dX9_spell_24 ?_
    refine v_iload_n C 1 rfl rfl dX9_spell_27 ?_
    obtain ⟨b2, h⟩ := h
    refine v_lald C 46 (by decide) rfl b2 dX9_spell_28 ?_
    exact so_X9_spell_29 C hr hK68 hK179 _ _ _ _ h
  · replace h := h.2 q4
    refine v_aload_n C 0 rfl rfl dX9_spell_14 ?_
    refine gf_X9_17 C dX9_spell_15 ?_
    refine v_iload_n C 1 rfl rfl dX9_spell_18 ?_
    obtain ⟨b3, h⟩ := h
    refine v_lald C 47 (by decide) rfl b3 dX9_spell_19 ?_
    refine v_goto C 29 (by decide) dX9_spell_20 ?_
    exact so_X9_spell_29 C hr hK68 hK179 _ _ _ _ h
set_option maxRecDepth 10000 in
set_option maxHeartbeats 4000000 in
theorem so_X9_spell {l : Launch} {E : EvT} (x1 : Int32) (μ : MemT) (P : MemT → Prop) (h : sp_X9_spell x1 μ P) : MCv l E yX9_spell cX9_spell 5 none (rmN 1 27) [.ref (eAd E 9), .int x1] μ P := by
  refine mc_entryv (by decide +kernel) (Nat.le_of_ble_eq_true rfl) (fun p e s m below meth c C hr => ?_)
  have h0 := h (fun x1_ x2_ μ => V p l e (rmN 1 27) s m ([.ref (eAd E 9), .int x1] : List Value).toArray below meth c E 5 0 0 (MQ below (va_Qv P (wdP E) (eA E s.heap.size)) ([.ref (eAd E 9), .int x1] : List Value).toArray s 0 0 (eA E s.heap.size)) 68 [(0, .ref (eAd E 9)), (1, .int x1_), (2, .int x2_)] [] μ) (fun x1_ x2_ x3_ μ => V p l e (rmN 1 27) s m ([.ref (eAd E 9), .int x1] : List Value).toArray below meth c E 5 0 0 (MQ below (va_Qv P (wdP E) (eA E s.heap.size)) ([.ref (eAd E 9), .int x1] : List Value).toArray s 0 0 (eA E s.heap.size)) 179 [(0, .ref (eAd E 9)), (1, .int x1_), (2, .int x2_), (3, .int x3_)] [] μ) (fun x1 x2 μ ht => so_X9_spell_68 C hr (fun x1 x2 μ hk => hk) (fun x1 x2 x3 μ hk => hk) x1 x2 μ ht) (fun x1 x2 x3 μ ht => so_X9_spell_179 C hr (fun x1 x2 μ hk => hk) (fun x1 x2 x3 μ hk => hk) x1 x2 x3 μ ht) 
  exact so_X9_spell_0 C hr (fun x1 x2 μ hk => hk) (fun x1 x2 x3 μ hk => hk) x1 μ h0
set_option maxRecDepth 10000 in
set_option maxHeartbeats 4000000 in
theorem so_X9_isHigher_0 {p : Program} {l : Launch} {e : Env} {s : State} {m : MethodId} {args : Array Value} {below : List Frame} {meth : Method} {c : Code} {E : EvT} {P : Int32 → MemT → Prop} (C : Cx p s m args meth c E cX9_isHigher 3 RX9) (hr : meth.sig.returnType = (some .boolean)) (x1 : Int32) (x2 : Int32) (μ : MemT) (h : t_X9_isHigher_0 P x1 x2 μ) : V p l e (rmN 0 0) s m args below meth c E 3 0 0 (MQ below (va_Qi P (wdP E) (eA E s.heap.size)) args s 0 0 (eA E s.heap.size)) 0 [(0, .ref (eAd E 9)), (1, .int x1), (2, .int x2)] [] μ := by
  unfold t_X9_isHigher_0 at h
  refine v_aload_n C 0 rfl rfl dX9_isHigher_0 ?_
  refine gf_X9_26 C dX9_isHigher_1 ?_
  refine v_iload_n C 1 rfl rfl dX9_isHigher_4 ?_
  obtain ⟨b1, h⟩ := h
  refine v_zald C 50 (by decide) rfl b1 dX9_isHigher_5 ?_
  refine v_aload_n C 0 rfl rfl dX9_isHigher_6 ?_
  refine gf_X9_26 C dX9_isHigher_7 ?_
  refine v_iload_n C 2 rfl rfl dX9_isHigher_10 ?_
  obtain ⟨b2, h⟩ := h
  refine v_zald C 50 (by decide) rfl b2 dX9_isHigher_11 ?_
  refine v_icmp_eq C 22 (by decide) dX9_isHigher_12 (fun q18 => ?_) (fun q18 => ?_)
  · replace h := h.1 q18
    refine v_aload_n C 0 rfl rfl dX9_isHigher_22 ?_
    refine gf_X9_42 C dX9_isHigher_23 ?_
    refine v_iload_n C 1 rfl rfl dX9_isHigher_26 ?_
    obtain ⟨b3, h⟩ := h
    refine v_lald C 55 (by decide) rfl b3 dX9_isHigher_27 ?_
    refine v_aload_n C 0 rfl rfl dX9_isHigher_28 ?_
    refine gf_X9_42 C dX9_isHigher_29 ?_
    refine v_iload_n C 2 rfl rfl dX9_isHigher_32 ?_
    obtain ⟨b4, h⟩ := h
    refine v_lald C 55 (by decide) rfl b4 dX9_isHigher_33 ?_
    refine v_lcmp_eq C 62 (by decide) dX9_isHigher_34 dX9_isHigher_35 (fun q15 => ?_) (fun q15 => ?_)
    · replace h := h.1 q15
      refine v_aload_n C 0 rfl rfl dX9_isHigher_62 ?_
      refine gf_X9_39 C dX9_isHigher_63 ?_
      refine v_iload_n C 1 rfl rfl dX9_isHigher_66 ?_
      obtain ⟨b5, h⟩ := h
      refine v_lald C 54 (by decide) rfl b5 dX9_isHigher_67 ?_
      refine v_aload_n C 0 rfl rfl dX9_isHigher_68 ?_
      refine gf_X9_39 C dX9_isHigher_69 ?_
      refine v_iload_n C 2 rfl rfl dX9_isHigher_72 ?_
      obtain ⟨b6, h⟩ := h
      refine v_lald C 54 (by decide) rfl b6 dX9_isHigher_73 ?_
      refine v_lcmp_eq C 102 (by decide) dX9_isHigher_74 dX9_isHigher_75 (fun q11 => ?_) (fun q11 => ?_)
      · replace h := h.1 q11
        refine v_iload_n C 1 rfl rfl dX9_isHigher_102 ?_
        refine v_iload_n C 2 rfl rfl dX9_isHigher_103 ?_
        refine v_icmp_ge C 111 (by decide) dX9_isHigher_104 (fun q7 => ?_) (fun q7 => ?_)
        · replace h := h.1 q7
          refine v_iconst (v := (0 : Int32)) C dX9_isHigher_111 (by decide) ?_
          exact v_zret C hr nb0 h dX9_isHigher_112
        · replace h := h.2 q7
          refine v_iconst (v := (1 : Int32)) C dX9_isHigher_107 (by decide) ?_
          refine v_goto C 112 (by decide) dX9_isHigher_108 ?_
          exact v_zret C hr nb1 h dX9_isHigher_112
      · replace h := h.2 q11
        refine v_aload_n C 0 rfl rfl dX9_isHigher_78 ?_
        refine gf_X9_39 C dX9_isHigher_79 ?_
        refine v_iload_n C 1 rfl rfl dX9_isHigher_82 ?_
        obtain ⟨b8, h⟩ := h
        refine v_lald C 54 (by decide) rfl b8 dX9_isHigher_83 ?_
        refine v_aload_n C 0 rfl rfl dX9_isHigher_84 ?_
        refine gf_X9_39 C dX9_isHigher_85 ?_
        refine v_iload_n C 2 rfl rfl dX9_isHigher_88 ?_
        obtain ⟨b9, h⟩ := h
        refine v_lald C 54 (by decide) rfl b9 dX9_isHigher_89 ?_
        refine v_lcmp_ge C 98 (by decide) dX9_isHigher_90 dX9_isHigher_91 (fun q10 => ?_) (fun q10 => ?_)
        · replace h := h.1 q10
          refine v_iconst (v := (0 : Int32)) C dX9_isHigher_98 (by decide) ?_
          refine v_goto C 112 (by decide) dX9_isHigher_99 ?_
          exact v_zret C hr nb0 h dX9_isHigher_112
        · replace h := h.2 q10
          refine v_iconst (v := (1 : Int32)) C dX9_isHigher_94 (by decide) ?_
          refine v_goto C 112 (by decide) dX9_isHigher_95 ?_
          exact v_zret C hr nb1 h dX9_isHigher_112
    · replace h := h.2 q15
      refine v_aload_n C 0 rfl rfl dX9_isHigher_38 ?_
      refine gf_X9_42 C dX9_isHigher_39 ?_
      refine v_iload_n C 1 rfl rfl dX9_isHigher_42 ?_
      obtain ⟨b12, h⟩ := h
      refine v_lald C 55 (by decide) rfl b12 dX9_isHigher_43 ?_
      refine v_aload_n C 0 rfl rfl dX9_isHigher_44 ?_
      refine gf_X9_42 C dX9_isHigher_45 ?_
      refine v_iload_n C 2 rfl rfl dX9_isHigher_48 ?_
      obtain ⟨b13, h⟩ := h
      refine v_lald C 55 (by decide) rfl b13 dX9_isHigher_49 ?_
      refine v_lcmp_le C 58 (by decide) dX9_isHigher_50 dX9_isHigher_51 (fun q14 => ?_) (fun q14 => ?_)
      · replace h := h.1 q14
        refine v_iconst (v := (0 : Int32)) C dX9_isHigher_58 (by decide) ?_
        refine v_goto C 112 (by decide) dX9_isHigher_59 ?_
        exact v_zret C hr nb0 h dX9_isHigher_112
      · replace h := h.2 q14
        refine v_iconst (v := (1 : Int32)) C dX9_isHigher_54 (by decide) ?_
        refine v_goto C 112 (by decide) dX9_isHigher_55 ?_
        exact v_zret C hr nb1 h dX9_isHigher_112
  · replace h := h.2 q18
    refine v_aload_n C 0 rfl rfl dX9_isHigher_15 ?_
    refine gf_X9_26 C dX9_isHigher_16 ?_
    refine v_iload_n C 2 rfl rfl dX9_isHigher_19 ?_
    obtain ⟨b16, h⟩ := h
    refine v_zald C 50 (by decide) rfl b16 dX9_isHigher_20 ?_
    obtain ⟨b17, h⟩ := h
    exact v_zret C hr (nb01 b17) h dX9_isHigher_21
set_option maxRecDepth 10000 in
set_option maxHeartbeats 4000000 in
theorem so_X9_isHigher {l : Launch} {E : EvT} (x1 : Int32) (x2 : Int32) (μ : MemT) (P : Int32 → MemT → Prop) (h : sp_X9_isHigher x1 x2 μ P) : MCi l E yX9_isHigher cX9_isHigher 3 (some .boolean) (rmN 0 0) [.ref (eAd E 9), .int x1, .int x2] μ P := by
  refine mc_entryi (by decide +kernel) (Nat.le_of_ble_eq_true rfl) (fun p e s m below meth c C hr => ?_)
  exact so_X9_isHigher_0 C hr x1 x2 μ h
set_option maxRecDepth 10000 in
set_option maxHeartbeats 4000000 in
theorem so_X9_behind_75 {p : Program} {l : Launch} {e : Env} {s : State} {m : MethodId} {args : Array Value} {below : List Frame} {meth : Method} {c : Code} {E : EvT} {P : Int32 → MemT → Prop} (C : Cx p s m args meth c E cX9_behind 6 RX9) (hr : meth.sig.returnType = (some .int)) {K5 : Int32 → Int32 → Int32 → Int32 → MemT → Prop} (hK5 : ∀ (x1 : Int32) (x2 : Int32) (x3 : Int32) (x4 : Int32) (μ : MemT), K5 x1 x2 x3 x4 μ → V p l e (rmN 0 0) s m args below meth c E 6 0 0 (MQ below (va_Qi P (wdP E) (eA E s.heap.size)) args s 0 0 (eA E s.heap.size)) 5 [(0, .ref (eAd E 9)), (1, .int x1), (2, .int x2), (3, .int x3), (4, .int x4)] [] μ) (x1 : Int32) (x2 : Int32) (x3 : Int32) (x4 : Int32) (y0 : Int32) (μ : MemT) (h : t_X9_behind_75 K5 P x1 x2 x3 x4 y0 μ) : V p l e (rmN 0 0) s m args below meth c E 6 0 0 (MQ below (va_Qi P (wdP E) (eA E s.heap.size)) args s 0 0 (eA E s.heap.size)) 75 [(0, .ref (eAd E 9)), (1, .int x1), (2, .int x2), (3, .int x3), (4, .int x4)] [.int y0] μ := by
  unfold t_X9_behind_75 at h
  refine v_istore C [(5, .int y0), (0, .ref (eAd E 9)), (1, .int x1), (2, .int x2), (3, .int x3), (4, .int x4)] (by decide) rfl dX9_behind_75 ?_
  refine v_iload C 0 rfl dX9_behind_77 ?_
  refine v_if_eq C 109 (by decide) dX9_behind_79 (fun q5 => ?_) (fun q5 => ?_)
  · replace h := h.1 q5
    refine v_iload_n C 4 rfl rfl dX9_behind_109 ?_
    refine v_istore_n C [(3, .int x3), (5, .int y0), (0, .ref (eAd E 9)), (1, .int x1), (2, .int x2), (4, .int x4)] rfl (by decide) rfl dX9_behind_110 ?_
    refine v_iinc (v := (x4 + 1)) C 5 [(4, .int (x4 + 1)), (3, .int x3), (5, .int y0), (0, .ref (eAd E 9)), (1, .int x1), (2, .int x2)] rfl rfl (by decide) rfl dX9_behind_111 ?_
    refine v_goto C 5 (by decide) dX9_behind_114 ?_
    refine v_sub C [3, 4, 5, 1, 0] rfl ?_
    exact hK5 _ _ _ _ _ h
  · replace h := h.2 q5
    refine v_iload_n C 4 rfl rfl dX9_behind_82 ?_
    refine v_iconst (v := (-1 : Int32)) C dX9_behind_83 (by decide) ?_
    refine v_icmp_eq C 104 (by decide) dX9_behind_84 (fun q4 => ?_) (fun q4 => ?_)
    · replace h := h.1 q4
      refine v_iload C 5 rfl dX9_behind_104 ?_
      refine v_goto C 110 (by decide) dX9_behind_106 ?_
      refine v_istore_n C [(3, .int x4), (5, .int y0), (0, .ref (eAd E 9)), (1, .int x1), (2, .int x2), (4, .int x4)] rfl (by decide) rfl dX9_behind_110 ?_
      refine v_iinc (v := (x4 + 1)) C 5 [(4, .int (x4 + 1)), (3, .int x4), (5, .int y0), (0, .ref (eAd E 9)), (1, .int x1), (2, .int x2)] rfl rfl (by decide) rfl dX9_behind_111 ?_
      refine v_goto C 5 (by decide) dX9_behind_114 ?_
      refine v_sub C [3, 4, 5, 1, 0] rfl ?_
      exact hK5 _ _ _ _ _ h
    · replace h := h.2 q4
      refine v_aload_n C 1 rfl rfl dX9_behind_87 ?_
      refine gf_X9_39 C dX9_behind_88 ?_
      refine v_iload C 5 rfl dX9_behind_91 ?_
      obtain ⟨b1, h⟩ := h
      refine v_lald C 54 (by decide) rfl b1 dX9_behind_93 ?_
      refine v_aload_n C 1 rfl rfl dX9_behind_94 ?_
      refine gf_X9_39 C dX9_behind_95 ?_
      refine v_iload_n C 4 rfl rfl dX9_behind_98 ?_
      obtain ⟨b2, h⟩ := h
      refine v_lald C 54 (by decide) rfl b2 dX9_behind_99 ?_
      refine v_lcmp_ge C 109 (by decide) dX9_behind_100 dX9_behind_101 (fun q3 => ?_) (fun q3 => ?_)
      · replace h := h.1 q3
        refine v_iload_n C 4 rfl rfl dX9_behind_109 ?_
        refine v_istore_n C [(3, .int x3), (5, .int y0), (0, .ref (eAd E 9)), (1, .int x1), (2, .int x2), (4, .int x4)] rfl (by decide) rfl dX9_behind_110 ?_
        refine v_iinc (v := (x4 + 1)) C 5 [(4, .int (x4 + 1)), (3, .int x3), (5, .int y0), (0, .ref (eAd E 9)), (1, .int x1), (2, .int x2)] rfl rfl (by decide) rfl dX9_behind_111 ?_
        refine v_goto C 5 (by decide) dX9_behind_114 ?_
        refine v_sub C [3, 4, 5, 1, 0] rfl ?_
        exact hK5 _ _ _ _ _ h
      · replace h := h.2 q3
        refine v_iload C 5 rfl dX9_behind_104 ?_
        refine v_goto C 110 (by decide) dX9_behind_106 ?_
        refine v_istore_n C [(3, .int x4), (5, .int y0), (0, .ref (eAd E 9)), (1, .int x1), (2, .int x2), (4, .int x4)] rfl (by decide) rfl dX9_behind_110 ?_
        refine v_iinc (v := (x4 + 1)) C 5 [(4, .int (x4 + 1)), (3, .int x4), (5, .int y0), (0, .ref (eAd E 9)), (1, .int x1), (2, .int x2)] rfl rfl (by decide) rfl dX9_behind_111 ?_
        refine v_goto C 5 (by decide) dX9_behind_114 ?_
        refine v_sub C [3, 4, 5, 1, 0] rfl ?_
        exact hK5 _ _ _ _ _ h
set_option maxRecDepth 10000 in
set_option maxHeartbeats 4000000 in
theorem so_X9_behind_74 {p : Program} {l : Launch} {e : Env} {s : State} {m : MethodId} {args : Array Value} {below : List Frame} {meth : Method} {c : Code} {E : EvT} {P : Int32 → MemT → Prop} (C : Cx p s m args meth c E cX9_behind 6 RX9) (hr : meth.sig.returnType = (some .int)) {K5 : Int32 → Int32 → Int32 → Int32 → MemT → Prop} (hK5 : ∀ (x1 : Int32) (x2 : Int32) (x3 : Int32) (x4 : Int32) (μ : MemT), K5 x1 x2 x3 x4 μ → V p l e (rmN 0 0) s m args below meth c E 6 0 0 (MQ below (va_Qi P (wdP E) (eA E s.heap.size)) args s 0 0 (eA E s.heap.size)) 5 [(0, .ref (eAd E 9)), (1, .int x1), (2, .int x2), (3, .int x3), (4, .int x4)] [] μ) (x1 : Int32) (x2 : Int32) (x3 : Int32) (x4 : Int32) (μ : MemT) (h : t_X9_behind_74 K5 P x1 x2 x3 x4 μ) : V p l e (rmN 0 0) s m args below meth c E 6 0 0 (MQ below (va_Qi P (wdP E) (eA E s.heap.size)) args s 0 0 (eA E s.heap.size)) 74 [(0, .ref (eAd E 9)), (1, .int x1), (2, .int x2), (3, .int x3), (4, .int x4)] [] μ := by
  unfold t_X9_behind_74 at h
  refine v_iconst (v := (0 : Int32)) C dX9_behind_74 (by decide) ?_
  exact so_X9_behind_75 C hr hK5 _ _ _ _ _ _ h
set_option maxRecDepth 10000 in
set_option maxHeartbeats 4000000 in
theorem so_X9_behind_70 {p : Program} {l : Launch} {e : Env} {s : State} {m : MethodId} {args : Array Value} {below : List Frame} {meth : Method} {c : Code} {E : EvT} {P : Int32 → MemT → Prop} (C : Cx p s m args meth c E cX9_behind 6 RX9) (hr : meth.sig.returnType = (some .int)) {K5 : Int32 → Int32 → Int32 → Int32 → MemT → Prop} (hK5 : ∀ (x1 : Int32) (x2 : Int32) (x3 : Int32) (x4 : Int32) (μ : MemT), K5 x1 x2 x3 x4 μ → V p l e (rmN 0 0) s m args below meth c E 6 0 0 (MQ below (va_Qi P (wdP E) (eA E s.heap.size)) args s 0 0 (eA E s.heap.size)) 5 [(0, .ref (eAd E 9)), (1, .int x1), (2, .int x2), (3, .int x3), (4, .int x4)] [] μ) (x1 : Int32) (x2 : Int32) (x3 : Int32) (x4 : Int32) (μ : MemT) (h : t_X9_behind_70 K5 P x1 x2 x3 x4 μ) : V p l e (rmN 0 0) s m args below meth c E 6 0 0 (MQ below (va_Qi P (wdP E) (eA E s.heap.size)) args s 0 0 (eA E s.heap.size)) 70 [(0, .ref (eAd E 9)), (1, .int x1), (2, .int x2), (3, .int x3), (4, .int x4)] [] μ := by
  unfold t_X9_behind_70 at h
  refine v_iconst (v := (1 : Int32)) C dX9_behind_70 (by decide) ?_
  refine v_goto C 75 (by decide) dX9_behind_71 ?_
  exact so_X9_behind_75 C hr hK5 _ _ _ _ _ _ h
set_option maxRecDepth 10000 in
set_option maxHeartbeats 4000000 in
theorem so_X9_behind_5 {p : Program} {l : Launch} {e : Env} {s : State} {m : MethodId} {args : Array Value} {below : List Frame} {meth : Method} {c : Code} {E : EvT} {P : Int32 → MemT → Prop} (C : Cx p s m args meth c E cX9_behind 6 RX9) (hr : meth.sig.returnType = (some .int)) {K5 : Int32 → Int32 → Int32 → Int32 → MemT → Prop} (hK5 : ∀ (x1 : Int32) (x2 : Int32) (x3 : Int32) (x4 : Int32) (μ : MemT), K5 x1 x2 x3 x4 μ → V p l e (rmN 0 0) s m args below meth c E 6 0 0 (MQ below (va_Qi P (wdP E) (eA E s.heap.size)) args s 0 0 (eA E s.heap.size)) 5 [(0, .ref (eAd E 9)), (1, .int x1), (2, .int x2), (3, .int x3), (4, .int x4)] [] μ) (x1 : Int32) (x2 : Int32) (x3 : Int32) (x4 : Int32) (μ : MemT) (h : t_X9_behind_5 K5 P x1 x2 x3 x4 μ) : V p l e (rmN 0 0) s m args below meth c E 6 0 0 (MQ below (va_Qi P (wdP E) (eA E s.heap.size)) args s 0 0 (eA E s.heap.size)) 5 [(0, .ref (eAd E 9)), (1, .int x1), (2, .int x2), (3, .int x3), (4, .int x4)] [] μ := by
  unfold t_X9_behind_5 at h
  refine v_iload C 4 rfl dX9_behind_5 ?_
  refine v_aload_n C 0 rfl rfl dX9_behind_7 ?_
  refine gf_X9_105 C dX9_behind_8 ?_
  refine v_icmp_ge C 117 (by decide) dX9_behind_11 (fun q11 => ?_) (fun q11 => ?_)
  · replace h := h.1 q11
    refine v_iload_n C 3 rfl rfl dX9_behind_117 ?_
    exact v_iret C hr h dX9_behind_118
  · replace h := h.2 q11
    refine v_aload_n C 0 rfl rfl dX9_behind_14 ?_
    refine gf_X9_54 C dX9_behind_15 ?_
    refine v_iload C 4 rfl dX9_behind_18 ?_
    obtain ⟨b1, h⟩ := h
    refine v_iald C 59 (by decide) rfl b1 dX9_behind_20 ?_
    refine v_iload_n C 1 rfl rfl dX9_behind_21 ?_
    refine v_icmp_ne C 74 (by decide) dX9_behind_22 (fun q10 => ?_) (fun q10 => ?_)
    · replace h := h.1 q10
      exact so_X9_behind_74 C hr hK5 _ _ _ _ _ h
    · replace h := h.2 q10
      refine v_iload_n C 2 rfl rfl dX9_behind_25 ?_
      refine v_iconst (v := (-1 : Int32)) C dX9_behind_26 (by decide) ?_
      refine v_icmp_eq C 70 (by decide) dX9_behind_27 (fun q9 => ?_) (fun q9 => ?_)
      · replace h := h.1 q9
        exact so_X9_behind_70 C hr hK5 _ _ _ _ _ h
      · replace h := h.2 q9
        refine v_aload_n C 0 rfl rfl dX9_behind_30 ?_
        refine gf_X9_39 C dX9_behind_31 ?_
        refine v_iload C 4 rfl dX9_behind_34 ?_
        obtain ⟨b2, h⟩ := h
        refine v_lald C 54 (by decide) rfl b2 dX9_behind_36 ?_
        refine v_aload_n C 0 rfl rfl dX9_behind_37 ?_
        refine gf_X9_39 C dX9_behind_38 ?_
        refine v_iload_n C 2 rfl rfl dX9_behind_41 ?_
        obtain ⟨b3, h⟩ := h
        refine v_lald C 54 (by decide) rfl b3 dX9_behind_42 ?_
        refine v_lcmp_gt C 70 (by decide) dX9_behind_43 dX9_behind_44 (fun q8 => ?_) (fun q8 => ?_)
        · replace h := h.1 q8
          exact so_X9_behind_70 C hr hK5 _ _ _ _ _ h
        · replace h := h.2 q8
          refine v_aload_n C 0 rfl rfl dX9_behind_47 ?_
          refine gf_X9_39 C dX9_behind_48 ?_
          refine v_iload C 4 rfl dX9_behind_51 ?_
          obtain ⟨b4, h⟩ := h
          refine v_lald C 54 (by decide) rfl b4 dX9_behind_53 ?_
          refine v_aload_n C 0 rfl rfl dX9_behind_54 ?_
          refine gf_X9_39 C dX9_behind_55 ?_
          refine v_iload_n C 2 rfl rfl dX9_behind_58 ?_
          obtain ⟨b5, h⟩ := h
          refine v_lald C 54 (by decide) rfl b5 dX9_behind_59 ?_
          refine v_lcmp_ne C 74 (by decide) dX9_behind_60 dX9_behind_61 (fun q7 => ?_) (fun q7 => ?_)
          · replace h := h.1 q7
            exact so_X9_behind_74 C hr hK5 _ _ _ _ _ h
          · replace h := h.2 q7
            refine v_iload C 4 rfl dX9_behind_64 ?_
            refine v_iload_n C 2 rfl rfl dX9_behind_66 ?_
            refine v_icmp_le C 74 (by decide) dX9_behind_67 (fun q6 => ?_) (fun q6 => ?_)
            · replace h := h.1 q6
              exact so_X9_behind_74 C hr hK5 _ _ _ _ _ h
            · replace h := h.2 q6
              exact so_X9_behind_70 C hr hK5 _ _ _ _ _ h
set_option maxRecDepth 10000 in
set_option maxHeartbeats 4000000 in
theorem so_X9_behind_0 {p : Program} {l : Launch} {e : Env} {s : State} {m : MethodId} {args : Array Value} {below : List Frame} {meth : Method} {c : Code} {E : EvT} {P : Int32 → MemT → Prop} (C : Cx p s m args meth c E cX9_behind 6 RX9) (hr : meth.sig.returnType = (some .int)) {K5 : Int32 → Int32 → Int32 → Int32 → MemT → Prop} (hK5 : ∀ (x1 : Int32) (x2 : Int32) (x3 : Int32) (x4 : Int32) (μ : MemT), K5 x1 x2 x3 x4 μ → V p l e (rmN 0 0) s m args below meth c E 6 0 0 (MQ below (va_Qi P (wdP E) (eA E s.heap.size)) args s 0 0 (eA E s.heap.size)) 5 [(0, .ref (eAd E 9)), (1, .int x1), (2, .int x2), (3, .int x3), (4, .int x4)] [] μ) (x1 : Int32) (x2 : Int32) (μ : MemT) (h : t_X9_behind_0 K5 P x1 x2 μ) : V p l e (rmN 0 0) s m args below meth c E 6 0 0 (MQ below (va_Qi P (wdP E) (eA E s.heap.size)) args s 0 0 (eA E s.heap.size)) 0 [(0, .ref (eAd E 9)), (1, .int x1), (2, .int x2)] [] μ := by
  unfold t_X9_behind_0 at h
  refine v_iconst (v := (-1 : Int32)) C dX9_behind_0 (by decide) ?_
  refine v_istore_n C [(3, .int (-1 : Int32)), (0, .ref (eAd E 9)), (1, .int x1), (2, .int x2)] rfl (by decide) rfl dX9_behind_1 ?_
  refine v_iconst (v := (0 : Int32)) C dX9_behind_2 (by decide) ?_
  refine v_istore C [(4, .int (0 : Int32)), (3, .int (-1 : Int32)), (0, .ref (eAd E 9)), (1, .int x1), (2, .int x2)] (by decide) rfl dX9_behind_3 ?_
  refine v_sub C [2, 3, 4, 1, 0] rfl ?_
  exact hK5 _ _ _ _ _ h
set_option maxRecDepth 10000 in
set_option maxHeartbeats 4000000 in
theorem so_X9_behind {l : Launch} {E : EvT} (x1 : Int32) (x2 : Int32) (μ : MemT) (P : Int32 → MemT → Prop) (h : sp_X9_behind x1 x2 μ P) : MCi l E yX9_behind cX9_behind 6 (some .int) (rmN 0 0) [.ref (eAd E 9), .int x1, .int x2] μ P := by
  refine mc_entryi (by decide +kernel) (Nat.le_of_ble_eq_true rfl) (fun p e s m below meth c C hr => ?_)
  have h0 := h (fun x1_ x2_ x3_ x4_ μ => V p l e (rmN 0 0) s m ([.ref (eAd E 9), .int x1, .int x2] : List Value).toArray below meth c E 6 0 0 (MQ below (va_Qi P (wdP E) (eA E s.heap.size)) ([.ref (eAd E 9), .int x1, .int x2] : List Value).toArray s 0 0 (eA E s.heap.size)) 5 [(0, .ref (eAd E 9)), (1, .int x1_), (2, .int x2_), (3, .int x3_), (4, .int x4_)] [] μ) (fun x1 x2 x3 x4 μ ht => so_X9_behind_5 C hr (fun x1 x2 x3 x4 μ hk => hk) x1 x2 x3 x4 μ ht) 
  exact so_X9_behind_0 C hr (fun x1 x2 x3 x4 μ hk => hk) x1 x2 μ h0
set_option maxRecDepth 10000 in
set_option maxHeartbeats 4000000 in
theorem so_X9_cutLine_445 {p : Program} {l : Launch} {e : Env} {s : State} {m : MethodId} {args : Array Value} {below : List Frame} {meth : Method} {c : Code} {E : EvT} {P : MemT → Prop} (C : Cx p s m args meth c E cX9_cutLine 8 RX9) (hr : meth.sig.returnType = none) {K9 : Int32 → Int32 → Int32 → MemT → Prop} (hK9 : ∀ (x1 : Int32) (x2 : Int32) (x3 : Int32) (μ : MemT), K9 x1 x2 x3 μ → V p l e (rmN 1 25) s m args below meth c E 8 0 0 (MQ below (va_Qv P (wdP E) (eA E s.heap.size)) args s 0 0 (eA E s.heap.size)) 9 [(0, .ref (eAd E 9)), (1, .int x1), (2, .int x2), (3, .int x3)] [] μ) (x1 : Int32) (x2 : Int32) (x3 : Int32) (x4 : Int32) (x5 : Int32) (x6 : Int64) (y1 : Int32) (y2 : Int32) (μ : MemT) (h : t_X9_cutLine_445 K9 P x1 x2 x3 x4 x5 x6 y1 y2 μ) : V p l e (rmN 1 25) s m args below meth c E 8 0 0 (MQ below (va_Qv P (wdP E) (eA E s.heap.size)) args s 0 0 (eA E s.heap.size)) 445 [(0, .ref (eAd E 9)), (1, .int x1), (2, .int x2), (3, .int x3), (4, .int x4), (5, .int x5), (6, .long x6)] [.int y2, .int y1, .ref (eAd E 61)] μ := by
  unfold t_X9_cutLine_445 at h
  obtain ⟨b1, h⟩ := h
  refine v_iast C 61 (by decide) rfl b1 dX9_cutLine_445 ?_
  refine v_nmM (fun μ2 e_μ2 => ?_)
  replace h := h μ2 e_μ2
  refine v_aload_n C 0 rfl rfl dX9_cutLine_446 ?_
  refine gf_X9_63 C dX9_cutLine_447 ?_
  refine v_iload_n C 2 rfl rfl dX9_cutLine_450 ?_
  refine v_iload_n C 3 rfl rfl dX9_cutLine_451 ?_
  refine v_if_ne C 497 (by decide) dX9_cutLine_452 (fun q19 => ?_) (fun q19 => ?_)
  · replace h := h.1 q19
    refine v_iconst (v := (0 : Int32)) C dX9_cutLine_497 (by decide) ?_
    obtain ⟨b3, h⟩ := h
    refine v_zast C 62 (by decide) rfl b3 dX9_cutLine_498 ?_
    refine v_nmM (fun μ4 e_μ4 => ?_)
    replace h := h μ4 e_μ4
    refine v_iload C 5 rfl dX9_cutLine_499 ?_
    refine v_istore_n C [(2, .int x5), (0, .ref (eAd E 9)), (1, .int x1), (3, .int x3), (4, .int x4), (5, .int x5), (6, .long x6)] rfl (by decide) rfl dX9_cutLine_501 ?_
    refine v_goto C 9 (by decide) dX9_cutLine_502 ?_
    refine v_sub C [1, 2, 0, 3] rfl ?_
    exact hK9 _ _ _ _ h
  · replace h := h.2 q19
    refine v_lload C 6 rfl dX9_cutLine_455 ?_
    refine v_lconst (v := (0 : Int64)) C dX9_cutLine_457 (by decide) ?_
    refine v_lcmp_le C 497 (by decide) dX9_cutLine_458 dX9_cutLine_459 (fun q18 => ?_) (fun q18 => ?_)
    · replace h := h.1 q18
      refine v_iconst (v := (0 : Int32)) C dX9_cutLine_497 (by decide) ?_
      obtain ⟨b5, h⟩ := h
      refine v_zast C 62 (by decide) rfl b5 dX9_cutLine_498 ?_
      refine v_nmM (fun μ6 e_μ6 => ?_)
      replace h := h μ6 e_μ6
      refine v_iload C 5 rfl dX9_cutLine_499 ?_
      refine v_istore_n C [(2, .int x5), (0, .ref (eAd E 9)), (1, .int x1), (3, .int x3), (4, .int x4), (5, .int x5), (6, .long x6)] rfl (by decide) rfl dX9_cutLine_501 ?_
      refine v_goto C 9 (by decide) dX9_cutLine_502 ?_
      refine v_sub C [1, 2, 0, 3] rfl ?_
      exact hK9 _ _ _ _ h
    · replace h := h.2 q18
      refine v_aload_n C 0 rfl rfl dX9_cutLine_462 ?_
      refine gf_X9_20 C dX9_cutLine_463 ?_
      refine v_iload_n C 2 rfl rfl dX9_cutLine_466 ?_
      obtain ⟨b7, h⟩ := h
      refine v_lald C 48 (by decide) rfl b7 dX9_cutLine_467 ?_
      refine v_lconst (v := (0 : Int64)) C dX9_cutLine_468 (by decide) ?_
      refine v_lcmp_le C 497 (by decide) dX9_cutLine_469 dX9_cutLine_470 (fun q17 => ?_) (fun q17 => ?_)
      · replace h := h.1 q17
        refine v_iconst (v := (0 : Int32)) C dX9_cutLine_497 (by decide) ?_
        obtain ⟨b8, h⟩ := h
        refine v_zast C 62 (by decide) rfl b8 dX9_cutLine_498 ?_
        refine v_nmM (fun μ9 e_μ9 => ?_)
        replace h := h μ9 e_μ9
        refine v_iload C 5 rfl dX9_cutLine_499 ?_
        refine v_istore_n C [(2, .int x5), (0, .ref (eAd E 9)), (1, .int x1), (3, .int x3), (4, .int x4), (5, .int x5), (6, .long x6)] rfl (by decide) rfl dX9_cutLine_501 ?_
        refine v_goto C 9 (by decide) dX9_cutLine_502 ?_
        refine v_sub C [1, 2, 0, 3] rfl ?_
        exact hK9 _ _ _ _ h
      · replace h := h.2 q17
        refine v_ldc2 C gc_X9_122 dX9_cutLine_473 ?_
        refine v_lload C 6 rfl dX9_cutLine_476 ?_
        refine v_lmul C dX9_cutLine_478 ?_
        refine v_aload_n C 0 rfl rfl dX9_cutLine_479 ?_
        refine gf_X9_20 C dX9_cutLine_480 ?_
        refine v_iload_n C 2 rfl rfl dX9_cutLine_483 ?_
        obtain ⟨b10, h⟩ := h
        refine v_lald C 48 (by decide) rfl b10 dX9_cutLine_484 ?_
        obtain ⟨b11, h⟩ := h
        refine v_ldiv C b11 dX9_cutLine_485 ?_
        refine v_ldc2 C gc_X9_167 dX9_cutLine_486 ?_
        refine v_lcmp_lt C 497 (by decide) dX9_cutLine_489 dX9_cutLine_490 (fun q16 => ?_) (fun q16 => ?_)
        · replace h := h.1 q16
          refine v_iconst (v := (0 : Int32)) C dX9_cutLine_497 (by decide) ?_
          obtain ⟨b12, h⟩ := h
          refine v_zast C 62 (by decide) rfl b12 dX9_cutLine_498 ?_
          refine v_nmM (fun μ13 e_μ13 => ?_)
          replace h := h μ13 e_μ13
          refine v_iload C 5 rfl dX9_cutLine_499 ?_
          refine v_istore_n C [(2, .int x5), (0, .ref (eAd E 9)), (1, .int x1), (3, .int x3), (4, .int x4), (5, .int x5), (6, .long x6)] rfl (by decide) rfl dX9_cutLine_501 ?_
          refine v_goto C 9 (by decide) dX9_cutLine_502 ?_
          refine v_sub C [1, 2, 0, 3] rfl ?_
          exact hK9 _ _ _ _ h
        · replace h := h.2 q16
          refine v_iconst (v := (1 : Int32)) C dX9_cutLine_493 (by decide) ?_
          refine v_goto C 498 (by decide) dX9_cutLine_494 ?_
          obtain ⟨b14, h⟩ := h
          refine v_zast C 62 (by decide) rfl b14 dX9_cutLine_498 ?_
          refine v_nmM (fun μ15 e_μ15 => ?_)
          replace h := h μ15 e_μ15
          refine v_iload C 5 rfl dX9_cutLine_499 ?_
          refine v_istore_n C [(2, .int x5), (0, .ref (eAd E 9)), (1, .int x1), (3, .int x3), (4, .int x4), (5, .int x5), (6, .long x6)] rfl (by decide) rfl dX9_cutLine_501 ?_
          refine v_goto C 9 (by decide) dX9_cutLine_502 ?_
          refine v_sub C [1, 2, 0, 3] rfl ?_
          exact hK9 _ _ _ _ h
set_option maxRecDepth 10000 in
set_option maxHeartbeats 4000000 in
theorem so_X9_cutLine_429 {p : Program} {l : Launch} {e : Env} {s : State} {m : MethodId} {args : Array Value} {below : List Frame} {meth : Method} {c : Code} {E : EvT} {P : MemT → Prop} (C : Cx p s m args meth c E cX9_cutLine 8 RX9) (hr : meth.sig.returnType = none) {K9 : Int32 → Int32 → Int32 → MemT → Prop} (hK9 : ∀ (x1 : Int32) (x2 : Int32) (x3 : Int32) (μ : MemT), K9 x1 x2 x3 μ → V p l e (rmN 1 25) s m args below meth c E 8 0 0 (MQ below (va_Qv P (wdP E) (eA E s.heap.size)) args s 0 0 (eA E s.heap.size)) 9 [(0, .ref (eAd E 9)), (1, .int x1), (2, .int x2), (3, .int x3)] [] μ) (x1 : Int32) (x2 : Int32) (x3 : Int32) (x4 : Int32) (x5 : Int32) (x6 : Int64) (y0 : Int32) (μ : MemT) (h : t_X9_cutLine_429 K9 P x1 x2 x3 x4 x5 x6 y0 μ) : V p l e (rmN 1 25) s m args below meth c E 8 0 0 (MQ below (va_Qv P (wdP E) (eA E s.heap.size)) args s 0 0 (eA E s.heap.size)) 429 [(0, .ref (eAd E 9)), (1, .int x1), (2, .int x2), (3, .int x3), (4, .int x4), (5, .int x5), (6, .long x6)] [.int y0] μ := by
  unfold t_X9_cutLine_429 at h
  refine v_istore_n C [(3, .int y0), (0, .ref (eAd E 9)), (1, .int x1), (2, .int x2), (4, .int x4), (5, .int x5), (6, .long x6)] rfl (by decide) rfl dX9_cutLine_429 ?_
  refine v_aload_n C 1 rfl rfl dX9_cutLine_430 ?_
  refine gf_X9_60 C dX9_cutLine_431 ?_
  refine v_iload_n C 3 rfl rfl dX9_cutLine_434 ?_
  refine v_iload_n C 0 rfl rfl dX9_cutLine_435 ?_
  refine v_if_eq C 443 (by decide) dX9_cutLine_436 (fun q1 => ?_) (fun q1 => ?_)
  · replace h := h.1 q1
    refine v_iload C 5 rfl dX9_cutLine_443 ?_
    refine v_sub C [1, 2, 3, 0, 4, 5, 6] rfl ?_
    exact so_X9_cutLine_445 C hr hK9 _ _ _ _ _ _ _ _ _ h
  · replace h := h.2 q1
    refine v_iconst (v := (-1 : Int32)) C dX9_cutLine_439 (by decide) ?_
    refine v_goto C 445 (by decide) dX9_cutLine_440 ?_
    refine v_sub C [1, 2, 3, 0, 4, 5, 6] rfl ?_
    exact so_X9_cutLine_445 C hr hK9 _ _ _ _ _ _ _ _ _ h
set_option maxRecDepth 10000 in
set_option maxHeartbeats 4000000 in
theorem so_X9_cutLine_405 {p : Program} {l : Launch} {e : Env} {s : State} {m : MethodId} {args : Array Value} {below : List Frame} {meth : Method} {c : Code} {E : EvT} {P : MemT → Prop} (C : Cx p s m args meth c E cX9_cutLine 8 RX9) (hr : meth.sig.returnType = none) {K9 : Int32 → Int32 → Int32 → MemT → Prop} (hK9 : ∀ (x1 : Int32) (x2 : Int32) (x3 : Int32) (μ : MemT), K9 x1 x2 x3 μ → V p l e (rmN 1 25) s m args below meth c E 8 0 0 (MQ below (va_Qv P (wdP E) (eA E s.heap.size)) args s 0 0 (eA E s.heap.size)) 9 [(0, .ref (eAd E 9)), (1, .int x1), (2, .int x2), (3, .int x3)] [] μ) (x1 : Int32) (x2 : Int32) (x3 : Int32) (x4 : Int32) (x5 : Int32) (y0 : Int64) (μ : MemT) (h : t_X9_cutLine_405 K9 P x1 x2 x3 x4 x5 y0 μ) : V p l e (rmN 1 25) s m args below meth c E 8 0 0 (MQ below (va_Qv P (wdP E) (eA E s.heap.size)) args s 0 0 (eA E s.heap.size)) 405 [(0, .ref (eAd E 9)), (1, .int x1), (2, .int x2), (3, .int x3), (4, .int x4), (5, .int x5)] [.long y0] μ := by
  unfold t_X9_cutLine_405 at h
  refine v_lstore C [(6, .long y0), (0, .ref (eAd E 9)), (1, .int x1), (2, .int x2), (3, .int x3), (4, .int x4), (5, .int x5)] (by decide) rfl dX9_cutLine_405 ?_
  refine v_lload C 0 rfl dX9_cutLine_407 ?_
  refine v_ldc2 C gc_X9_138 dX9_cutLine_409 ?_
  refine v_aload_n C 1 rfl rfl dX9_cutLine_412 ?_
  refine gf_X9_23 C dX9_cutLine_413 ?_
  refine v_iload_n C 3 rfl rfl dX9_cutLine_416 ?_
  obtain ⟨b1, h⟩ := h
  refine v_iald C 49 (by decide) rfl b1 dX9_cutLine_417 ?_
  refine v_i2l C dX9_cutLine_418 ?_
  refine v_lmul C dX9_cutLine_419 ?_
  refine v_lcmp_lt C 428 (by decide) dX9_cutLine_420 dX9_cutLine_421 (fun q2 => ?_) (fun q2 => ?_)
  · replace h := h.1 q2
    refine v_iconst (v := (0 : Int32)) C dX9_cutLine_428 (by decide) ?_
    refine v_sub C [1, 2, 3, 4, 5, 6, 0] rfl ?_
    exact so_X9_cutLine_429 C hr hK9 _ _ _ _ _ _ _ _ h
  · replace h := h.2 q2
    refine v_iconst (v := (1 : Int32)) C dX9_cutLine_424 (by decide) ?_
    refine v_goto C 429 (by decide) dX9_cutLine_425 ?_
    refine v_sub C [1, 2, 3, 4, 5, 6, 0] rfl ?_
    exact so_X9_cutLine_429 C hr hK9 _ _ _ _ _ _ _ _ h
set_option maxRecDepth 10000 in
set_option maxHeartbeats 4000000 in
theorem so_X9_cutLine_365 {p : Program} {l : Launch} {e : Env} {s : State} {m : MethodId} {args : Array Value} {below : List Frame} {meth : Method} {c : Code} {E : EvT} {P : MemT → Prop} (C : Cx p s m args meth c E cX9_cutLine 8 RX9) (hr : meth.sig.returnType = none) {K9 : Int32 → Int32 → Int32 → MemT → Prop} (hK9 : ∀ (x1 : Int32) (x2 : Int32) (x3 : Int32) (μ : MemT), K9 x1 x2 x3 μ → V p l e (rmN 1 25) s m args below meth c E 8 0 0 (MQ below (va_Qv P (wdP E) (eA E s.heap.size)) args s 0 0 (eA E s.heap.size)) 9 [(0, .ref (eAd E 9)), (1, .int x1), (2, .int x2), (3, .int x3)] [] μ) (x1 : Int32) (x2 : Int32) (x3 : Int32) (x4 : Int32) (y1 : Int32) (y2 : Int32) (μ : MemT) (h : t_X9_cutLine_365 K9 P x1 x2 x3 x4 y1 y2 μ) : V p l e (rmN 1 25) s m args below meth c E 8 0 0 (MQ below (va_Qv P (wdP E) (eA E s.heap.size)) args s 0 0 (eA E s.heap.size)) 365 [(0, .ref (eAd E 9)), (1, .int x1), (2, .int x2), (3, .int x3), (4, .int x4)] [.int y2, .int y1, .ref (eAd E 69)] μ := by
  unfold t_X9_cutLine_365 at h
  obtain ⟨b1, h⟩ := h
  refine v_iast C 69 (by decide) rfl b1 dX9_cutLine_365 ?_
  refine v_nmM (fun μ2 e_μ2 => ?_)
  replace h := h μ2 e_μ2
  refine v_aload_n C 0 rfl rfl dX9_cutLine_366 ?_
  refine v_iload_n C 1 rfl rfl dX9_cutLine_367 ?_
  refine v_iload_n C 2 rfl rfl dX9_cutLine_368 ?_
  obtain ⟨P3, hs, h⟩ := h
  refine v_callVi C 9 [.int x1, .int x2] (by decide) rfl rfl rfl (so_X9_behind x1 x2 μ2 P3 hs) gw_X9_163 rfl rfl dd_X9_behind ⟨by decide, by decide⟩ rfl rfl (Nat.le_of_ble_eq_true rfl) ⟨by decide, by decide⟩ dX9_cutLine_369 (fun r6 μ4 q5 => ?_)
  replace h := h r6 μ4 q5
  refine v_istore C [(5, .int r6), (0, .ref (eAd E 9)), (1, .int x1), (2, .int x2), (3, .int x3), (4, .int x4)] (by decide) rfl dX9_cutLine_372 ?_
  refine v_iload C 0 rfl dX9_cutLine_374 ?_
  refine v_iconst (v := (-1 : Int32)) C dX9_cutLine_376 (by decide) ?_
  refine v_icmp_ne C 384 (by decide) dX9_cutLine_377 (fun q10 => ?_) (fun q10 => ?_)
  · replace h := h.1 q10
    refine v_aload_n C 1 rfl rfl dX9_cutLine_384 ?_
    refine gf_X9_39 C dX9_cutLine_385 ?_
    refine v_iload C 0 rfl dX9_cutLine_388 ?_
    obtain ⟨b7, h⟩ := h
    refine v_lald C 54 (by decide) rfl b7 dX9_cutLine_390 ?_
    refine v_aload_n C 1 rfl rfl dX9_cutLine_391 ?_
    refine gf_X9_39 C dX9_cutLine_392 ?_
    refine v_iload_n C 3 rfl rfl dX9_cutLine_395 ?_
    obtain ⟨b8, h⟩ := h
    refine v_lald C 54 (by decide) rfl b8 dX9_cutLine_396 ?_
    refine v_lsub C dX9_cutLine_397 ?_
    refine v_aload_n C 1 rfl rfl dX9_cutLine_398 ?_
    refine gf_X9_20 C dX9_cutLine_399 ?_
    refine v_iload_n C 3 rfl rfl dX9_cutLine_402 ?_
    obtain ⟨b9, h⟩ := h
    refine v_lald C 48 (by decide) rfl b9 dX9_cutLine_403 ?_
    refine v_lsub C dX9_cutLine_404 ?_
    refine v_sub C [1, 2, 3, 4, 5, 0] rfl ?_
    exact so_X9_cutLine_405 C hr hK9 _ _ _ _ _ _ _ h
  · replace h := h.2 q10
    refine v_lconst (v := (0 : Int64)) C dX9_cutLine_380 (by decide) ?_
    refine v_goto C 405 (by decide) dX9_cutLine_381 ?_
    refine v_sub C [1, 2, 3, 4, 5, 0] rfl ?_
    exact so_X9_cutLine_405 C hr hK9 _ _ _ _ _ _ _ h
set_option maxRecDepth 10000 in
set_option maxHeartbeats 4000000 in
theorem so_X9_cutLine_326 {p : Program} {l : Launch} {e : Env} {s : State} {m : MethodId} {args : Array Value} {below : List Frame} {meth : Method} {c : Code} {E : EvT} {P : MemT → Prop} (C : Cx p s m args meth c E cX9_cutLine 8 RX9) (hr : meth.sig.returnType = none) {K9 : Int32 → Int32 → Int32 → MemT → Prop} (hK9 : ∀ (x1 : Int32) (x2 : Int32) (x3 : Int32) (μ : MemT), K9 x1 x2 x3 μ → V p l e (rmN 1 25) s m args below meth c E 8 0 0 (MQ below (va_Qv P (wdP E) (eA E s.heap.size)) args s 0 0 (eA E s.heap.size)) 9 [(0, .ref (eAd E 9)), (1, .int x1), (2, .int x2), (3, .int x3)] [] μ) (x1 : Int32) (x2 : Int32) (x3 : Int32) (x4 : Int32) (y1 : Int32) (y2 : Int64) (μ : MemT) (h : t_X9_cutLine_326 K9 P x1 x2 x3 x4 y1 y2 μ) : V p l e (rmN 1 25) s m args below meth c E 8 0 0 (MQ below (va_Qv P (wdP E) (eA E s.heap.size)) args s 0 0 (eA E s.heap.size)) 326 [(0, .ref (eAd E 9)), (1, .int x1), (2, .int x2), (3, .int x3), (4, .int x4)] [.long y2, .int y1, .ref (eAd E 68)] μ := by
  unfold t_X9_cutLine_326 at h
  obtain ⟨b1, h⟩ := h
  refine v_last C 68 (by decide) rfl b1 dX9_cutLine_326 ?_
  refine v_nmM (fun μ2 e_μ2 => ?_)
  replace h := h μ2 e_μ2
  refine v_aload_n C 0 rfl rfl dX9_cutLine_327 ?_
  refine gf_X9_84 C dX9_cutLine_328 ?_
  refine v_iload C 4 rfl dX9_cutLine_331 ?_
  refine v_aload_n C 0 rfl rfl dX9_cutLine_333 ?_
  refine gf_X9_23 C dX9_cutLine_334 ?_
  refine v_iload_n C 2 rfl rfl dX9_cutLine_337 ?_
  obtain ⟨b3, h⟩ := h
  refine v_iald C 49 (by decide) rfl b3 dX9_cutLine_338 ?_
  refine v_aload_n C 0 rfl rfl dX9_cutLine_339 ?_
  refine gf_X9_84 C dX9_cutLine_340 ?_
  refine v_iload C 4 rfl dX9_cutLine_343 ?_
  obtain ⟨b4, h⟩ := h
  refine v_iald C 69 (by decide) rfl b4 dX9_cutLine_345 ?_
  refine v_icmp_le C 358 (by decide) dX9_cutLine_346 (fun q7 => ?_) (fun q7 => ?_)
  · replace h := h.1 q7
    refine v_aload_n C 0 rfl rfl dX9_cutLine_358 ?_
    refine gf_X9_84 C dX9_cutLine_359 ?_
    refine v_iload C 4 rfl dX9_cutLine_362 ?_
    obtain ⟨b5, h⟩ := h
    refine v_iald C 69 (by decide) rfl b5 dX9_cutLine_364 ?_
    exact so_X9_cutLine_365 C hr hK9 _ _ _ _ _ _ _ h
  · replace h := h.2 q7
    refine v_aload_n C 0 rfl rfl dX9_cutLine_349 ?_
    refine gf_X9_23 C dX9_cutLine_350 ?_
    refine v_iload_n C 2 rfl rfl dX9_cutLine_353 ?_
    obtain ⟨b6, h⟩ := h
    refine v_iald C 49 (by decide) rfl b6 dX9_cutLine_354 ?_
    refine v_goto C 365 (by decide) dX9_cutLine_355 ?_
    exact so_X9_cutLine_365 C hr hK9 _ _ _ _ _ _ _ h
set_option maxRecDepth 10000 in
set_option maxHeartbeats 4000000 in
theorem so_X9_cutLine_286 {p : Program} {l : Launch} {e : Env} {s : State} {m : MethodId} {args : Array Value} {below : List Frame} {meth : Method} {c : Code} {E : EvT} {P : MemT → Prop} (C : Cx p s m args meth c E cX9_cutLine 8 RX9) (hr : meth.sig.returnType = none) {K9 : Int32 → Int32 → Int32 → MemT → Prop} (hK9 : ∀ (x1 : Int32) (x2 : Int32) (x3 : Int32) (μ : MemT), K9 x1 x2 x3 μ → V p l e (rmN 1 25) s m args below meth c E 8 0 0 (MQ below (va_Qv P (wdP E) (eA E s.heap.size)) args s 0 0 (eA E s.heap.size)) 9 [(0, .ref (eAd E 9)), (1, .int x1), (2, .int x2), (3, .int x3)] [] μ) (x1 : Int32) (x2 : Int32) (x3 : Int32) (x4 : Int32) (y1 : Int32) (y2 : Int64) (μ : MemT) (h : t_X9_cutLine_286 K9 P x1 x2 x3 x4 y1 y2 μ) : V p l e (rmN 1 25) s m args below meth c E 8 0 0 (MQ below (va_Qv P (wdP E) (eA E s.heap.size)) args s 0 0 (eA E s.heap.size)) 286 [(0, .ref (eAd E 9)), (1, .int x1), (2, .int x2), (3, .int x3), (4, .int x4)] [.long y2, .int y1, .ref (eAd E 67)] μ := by
  unfold t_X9_cutLine_286 at h
  obtain ⟨b1, h⟩ := h
  refine v_last C 67 (by decide) rfl b1 dX9_cutLine_286 ?_
  refine v_nmM (fun μ2 e_μ2 => ?_)
  replace h := h μ2 e_μ2
  refine v_aload_n C 0 rfl rfl dX9_cutLine_287 ?_
  refine gf_X9_81 C dX9_cutLine_288 ?_
  refine v_iload C 4 rfl dX9_cutLine_291 ?_
  refine v_aload_n C 0 rfl rfl dX9_cutLine_293 ?_
  refine gf_X9_42 C dX9_cutLine_294 ?_
  refine v_iload_n C 2 rfl rfl dX9_cutLine_297 ?_
  obtain ⟨b3, h⟩ := h
  refine v_lald C 55 (by decide) rfl b3 dX9_cutLine_298 ?_
  refine v_aload_n C 0 rfl rfl dX9_cutLine_299 ?_
  refine gf_X9_81 C dX9_cutLine_300 ?_
  refine v_iload C 4 rfl dX9_cutLine_303 ?_
  obtain ⟨b4, h⟩ := h
  refine v_lald C 68 (by decide) rfl b4 dX9_cutLine_305 ?_
  refine v_lcmp_ge C 319 (by decide) dX9_cutLine_306 dX9_cutLine_307 (fun q7 => ?_) (fun q7 => ?_)
  · replace h := h.1 q7
    refine v_aload_n C 0 rfl rfl dX9_cutLine_319 ?_
    refine gf_X9_81 C dX9_cutLine_320 ?_
    refine v_iload C 4 rfl dX9_cutLine_323 ?_
    obtain ⟨b5, h⟩ := h
    refine v_lald C 68 (by decide) rfl b5 dX9_cutLine_325 ?_
    exact so_X9_cutLine_326 C hr hK9 _ _ _ _ _ _ _ h
  · replace h := h.2 q7
    refine v_aload_n C 0 rfl rfl dX9_cutLine_310 ?_
    refine gf_X9_42 C dX9_cutLine_311 ?_
    refine v_iload_n C 2 rfl rfl dX9_cutLine_314 ?_
    obtain ⟨b6, h⟩ := h
    refine v_lald C 55 (by decide) rfl b6 dX9_cutLine_315 ?_
    refine v_goto C 326 (by decide) dX9_cutLine_316 ?_
    exact so_X9_cutLine_326 C hr hK9 _ _ _ _ _ _ _ h
set_option maxRecDepth 10000 in
set_option maxHeartbeats 4000000 in
theorem so_X9_cutLine_230 {p : Program} {l : Launch} {e : Env} {s : State} {m : MethodId} {args : Array Value} {below : List Frame} {meth : Method} {c : Code} {E : EvT} {P : MemT → Prop} (C : Cx p s m args meth c E cX9_cutLine 8 RX9) (hr : meth.sig.returnType = none) {K9 : Int32 → Int32 → Int32 → MemT → Prop} (hK9 : ∀ (x1 : Int32) (x2 : Int32) (x3 : Int32) (μ : MemT), K9 x1 x2 x3 μ → V p l e (rmN 1 25) s m args below meth c E 8 0 0 (MQ below (va_Qv P (wdP E) (eA E s.heap.size)) args s 0 0 (eA E s.heap.size)) 9 [(0, .ref (eAd E 9)), (1, .int x1), (2, .int x2), (3, .int x3)] [] μ) (x1 : Int32) (x2 : Int32) (x3 : Int32) (x4 : Int32) (y1 : Int32) (y2 : Int64) (μ : MemT) (h : t_X9_cutLine_230 K9 P x1 x2 x3 x4 y1 y2 μ) : V p l e (rmN 1 25) s m args below meth c E 8 0 0 (MQ below (va_Qv P (wdP E) (eA E s.heap.size)) args s 0 0 (eA E s.heap.size)) 230 [(0, .ref (eAd E 9)), (1, .int x1), (2, .int x2), (3, .int x3), (4, .int x4)] [.long y2, .int y1, .ref (eAd E 66)] μ := by
  unfold t_X9_cutLine_230 at h
  obtain ⟨b1, h⟩ := h
  refine v_last C 66 (by decide) rfl b1 dX9_cutLine_230 ?_
  refine v_nmM (fun μ2 e_μ2 => ?_)
  replace h := h μ2 e_μ2
  refine v_aload_n C 0 rfl rfl dX9_cutLine_231 ?_
  refine gf_X9_78 C dX9_cutLine_232 ?_
  refine v_iload C 4 rfl dX9_cutLine_235 ?_
  refine v_aload_n C 0 rfl rfl dX9_cutLine_237 ?_
  refine gf_X9_42 C dX9_cutLine_238 ?_
  refine v_iload_n C 2 rfl rfl dX9_cutLine_241 ?_
  obtain ⟨b3, h⟩ := h
  refine v_lald C 55 (by decide) rfl b3 dX9_cutLine_242 ?_
  refine v_aload_n C 0 rfl rfl dX9_cutLine_243 ?_
  refine gf_X9_23 C dX9_cutLine_244 ?_
  refine v_iload_n C 2 rfl rfl dX9_cutLine_247 ?_
  obtain ⟨b4, h⟩ := h
  refine v_iald C 49 (by decide) rfl b4 dX9_cutLine_248 ?_
  refine v_i2l C dX9_cutLine_249 ?_
  refine v_ladd C dX9_cutLine_250 ?_
  refine v_aload_n C 0 rfl rfl dX9_cutLine_251 ?_
  refine gf_X9_78 C dX9_cutLine_252 ?_
  refine v_iload C 4 rfl dX9_cutLine_255 ?_
  obtain ⟨b5, h⟩ := h
  refine v_lald C 67 (by decide) rfl b5 dX9_cutLine_257 ?_
  refine v_lcmp_le C 279 (by decide) dX9_cutLine_258 dX9_cutLine_259 (fun q9 => ?_) (fun q9 => ?_)
  · replace h := h.1 q9
    refine v_aload_n C 0 rfl rfl dX9_cutLine_279 ?_
    refine gf_X9_78 C dX9_cutLine_280 ?_
    refine v_iload C 4 rfl dX9_cutLine_283 ?_
    obtain ⟨b6, h⟩ := h
    refine v_lald C 67 (by decide) rfl b6 dX9_cutLine_285 ?_
    exact so_X9_cutLine_286 C hr hK9 _ _ _ _ _ _ _ h
  · replace h := h.2 q9
    refine v_aload_n C 0 rfl rfl dX9_cutLine_262 ?_
    refine gf_X9_42 C dX9_cutLine_263 ?_
    refine v_iload_n C 2 rfl rfl dX9_cutLine_266 ?_
    obtain ⟨b7, h⟩ := h
    refine v_lald C 55 (by decide) rfl b7 dX9_cutLine_267 ?_
    refine v_aload_n C 0 rfl rfl dX9_cutLine_268 ?_
    refine gf_X9_23 C dX9_cutLine_269 ?_
    refine v_iload_n C 2 rfl rfl dX9_cutLine_272 ?_
    obtain ⟨b8, h⟩ := h
    refine v_iald C 49 (by decide) rfl b8 dX9_cutLine_273 ?_
    refine v_i2l C dX9_cutLine_274 ?_
    refine v_ladd C dX9_cutLine_275 ?_
    refine v_goto C 286 (by decide) dX9_cutLine_276 ?_
    exact so_X9_cutLine_286 C hr hK9 _ _ _ _ _ _ _ h
set_option maxRecDepth 10000 in
set_option maxHeartbeats 4000000 in
theorem so_X9_cutLine_161 {p : Program} {l : Launch} {e : Env} {s : State} {m : MethodId} {args : Array Value} {below : List Frame} {meth : Method} {c : Code} {E : EvT} {P : MemT → Prop} (C : Cx p s m args meth c E cX9_cutLine 8 RX9) (hr : meth.sig.returnType = none) {K9 : Int32 → Int32 → Int32 → MemT → Prop} (hK9 : ∀ (x1 : Int32) (x2 : Int32) (x3 : Int32) (μ : MemT), K9 x1 x2 x3 μ → V p l e (rmN 1 25) s m args below meth c E 8 0 0 (MQ below (va_Qv P (wdP E) (eA E s.heap.size)) args s 0 0 (eA E s.heap.size)) 9 [(0, .ref (eAd E 9)), (1, .int x1), (2, .int x2), (3, .int x3)] [] μ) (x1 : Int32) (x2 : Int32) (x3 : Int32) (μ : MemT) (h : t_X9_cutLine_161 K9 P x1 x2 x3 μ) : V p l e (rmN 1 25) s m args below meth c E 8 0 0 (MQ below (va_Qv P (wdP E) (eA E s.heap.size)) args s 0 0 (eA E s.heap.size)) 161 [(0, .ref (eAd E 9)), (1, .int x1), (2, .int x2), (3, .int x3)] [] μ := by
  unfold t_X9_cutLine_161 at h
  refine v_aload_n C 0 rfl rfl dX9_cutLine_161 ?_
  refine gf_X9_150 C dX9_cutLine_162 ?_
  refine v_iconst (v := (1 : Int32)) C dX9_cutLine_165 (by decide) ?_
  refine v_isub C dX9_cutLine_166 ?_
  refine v_istore C [(4, .int ((μ.2.2.1 12) - (1 : Int32))), (0, .ref (eAd E 9)), (1, .int x1), (2, .int x2), (3, .int x3)] (by decide) rfl dX9_cutLine_167 ?_
  refine v_aload_n C 1 rfl rfl dX9_cutLine_169 ?_
  refine gf_X9_57 C dX9_cutLine_170 ?_
  refine v_iload_n C 3 rfl rfl dX9_cutLine_173 ?_
  refine v_iload C 0 rfl dX9_cutLine_174 ?_
  obtain ⟨b1, h⟩ := h
  refine v_iast C 60 (by decide) rfl b1 dX9_cutLine_176 ?_
  refine v_nmM (fun μ2 e_μ2 => ?_)
  replace h := h μ2 e_μ2
  refine v_aload_n C 1 rfl rfl dX9_cutLine_177 ?_
  refine gf_X9_75 C dX9_cutLine_178 ?_
  refine v_iload C 0 rfl dX9_cutLine_181 ?_
  refine v_aload_n C 1 rfl rfl dX9_cutLine_183 ?_
  refine gf_X9_39 C dX9_cutLine_184 ?_
  refine v_iload_n C 3 rfl rfl dX9_cutLine_187 ?_
  obtain ⟨b3, h⟩ := h
  refine v_lald C 54 (by decide) rfl b3 dX9_cutLine_188 ?_
  refine v_aload_n C 1 rfl rfl dX9_cutLine_189 ?_
  refine gf_X9_20 C dX9_cutLine_190 ?_
  refine v_iload_n C 3 rfl rfl dX9_cutLine_193 ?_
  obtain ⟨b4, h⟩ := h
  refine v_lald C 48 (by decide) rfl b4 dX9_cutLine_194 ?_
  refine v_ladd C dX9_cutLine_195 ?_
  refine v_aload_n C 1 rfl rfl dX9_cutLine_196 ?_
  refine gf_X9_75 C dX9_cutLine_197 ?_
  refine v_iload C 0 rfl dX9_cutLine_200 ?_
  obtain ⟨b5, h⟩ := h
  refine v_lald C 66 (by decide) rfl b5 dX9_cutLine_202 ?_
  refine v_lcmp_le C 223 (by decide) dX9_cutLine_203 dX9_cutLine_204 (fun q9 => ?_) (fun q9 => ?_)
  · replace h := h.1 q9
    refine v_aload_n C 1 rfl rfl dX9_cutLine_223 ?_
    refine gf_X9_75 C dX9_cutLine_224 ?_
    refine v_iload C 0 rfl dX9_cutLine_227 ?_
    obtain ⟨b6, h⟩ := h
    refine v_lald C 66 (by decide) rfl b6 dX9_cutLine_229 ?_
    refine v_sub C [1, 2, 3, 4, 0] rfl ?_
    exact so_X9_cutLine_230 C hr hK9 _ _ _ _ _ _ _ h
  · replace h := h.2 q9
    refine v_aload_n C 1 rfl rfl dX9_cutLine_207 ?_
    refine gf_X9_39 C dX9_cutLine_208 ?_
    refine v_iload_n C 3 rfl rfl dX9_cutLine_211 ?_
    obtain ⟨b7, h⟩ := h
    refine v_lald C 54 (by decide) rfl b7 dX9_cutLine_212 ?_
    refine v_aload_n C 1 rfl rfl dX9_cutLine_213 ?_
    refine gf_X9_20 C dX9_cutLine_214 ?_
    refine v_iload_n C 3 rfl rfl dX9_cutLine_217 ?_
    obtain ⟨b8, h⟩ := h
    refine v_lald C 48 (by decide) rfl b8 dX9_cutLine_218 ?_
    refine v_ladd C dX9_cutLine_219 ?_
    refine v_goto C 230 (by decide) dX9_cutLine_220 ?_
    refine v_sub C [1, 2, 3, 4, 0] rfl ?_
    exact so_X9_cutLine_230 C hr hK9 _ _ _ _ _ _ _ h
set_option maxRecDepth 10000 in
set_option maxHeartbeats 4000000 in
theorem so_X9_cutLine_150 {p : Program} {l : Launch} {e : Env} {s : State} {m : MethodId} {args : Array Value} {below : List Frame} {meth : Method} {c : Code} {E : EvT} {P : MemT → Prop} (C : Cx p s m args meth c E cX9_cutLine 8 RX9) (hr : meth.sig.returnType = none) {K9 : Int32 → Int32 → Int32 → MemT → Prop} (hK9 : ∀ (x1 : Int32) (x2 : Int32) (x3 : Int32) (μ : MemT), K9 x1 x2 x3 μ → V p l e (rmN 1 25) s m args below meth c E 8 0 0 (MQ below (va_Qv P (wdP E) (eA E s.heap.size)) args s 0 0 (eA E s.heap.size)) 9 [(0, .ref (eAd E 9)), (1, .int x1), (2, .int x2), (3, .int x3)] [] μ) (x1 : Int32) (x2 : Int32) (x3 : Int32) (y1 : Int32) (y2 : Int32) (μ : MemT) (h : t_X9_cutLine_150 K9 P x1 x2 x3 y1 y2 μ) : V p l e (rmN 1 25) s m args below meth c E 8 0 0 (MQ below (va_Qv P (wdP E) (eA E s.heap.size)) args s 0 0 (eA E s.heap.size)) 150 [(0, .ref (eAd E 9)), (1, .int x1), (2, .int x2), (3, .int x3)] [.int y2, .int y1, .ref (eAd E 70)] μ := by
  unfold t_X9_cutLine_150 at h
  obtain ⟨b1, h⟩ := h
  refine v_iast C 70 (by decide) rfl b1 dX9_cutLine_150 ?_
  refine v_nmM (fun μ2 e_μ2 => ?_)
  replace h := h μ2 e_μ2
  refine v_aload_n C 0 rfl rfl dX9_cutLine_151 ?_
  refine v_dup C rfl dX9_cutLine_152 ?_
  refine gf_X9_150 C dX9_cutLine_153 ?_
  refine v_iconst (v := (1 : Int32)) C dX9_cutLine_156 (by decide) ?_
  refine v_iadd C dX9_cutLine_157 ?_
  refine pf_X9_150 C dX9_cutLine_158 ?_
  refine v_nmM (fun μ3 e_μ3 => ?_)
  replace h := h μ3 e_μ3
  exact so_X9_cutLine_161 C hr hK9 _ _ _ _ h
set_option maxRecDepth 10000 in
set_option maxHeartbeats 4000000 in
theorem so_X9_cutLine_9 {p : Program} {l : Launch} {e : Env} {s : State} {m : MethodId} {args : Array Value} {below : List Frame} {meth : Method} {c : Code} {E : EvT} {P : MemT → Prop} (C : Cx p s m args meth c E cX9_cutLine 8 RX9) (hr : meth.sig.returnType = none) {K9 : Int32 → Int32 → Int32 → MemT → Prop} (hK9 : ∀ (x1 : Int32) (x2 : Int32) (x3 : Int32) (μ : MemT), K9 x1 x2 x3 μ → V p l e (rmN 1 25) s m args below meth c E 8 0 0 (MQ below (va_Qv P (wdP E) (eA E s.heap.size)) args s 0 0 (eA E s.heap.size)) 9 [(0, .ref (eAd E 9)), (1, .int x1), (2, .int x2), (3, .int x3)] [] μ) (x1 : Int32) (x2 : Int32) (x3 : Int32) (μ : MemT) (h : t_X9_cutLine_9 K9 P x1 x2 x3 μ) : V p l e (rmN 1 25) s m args below meth c E 8 0 0 (MQ below (va_Qv P (wdP E) (eA E s.heap.size)) args s 0 0 (eA E s.heap.size)) 9 [(0, .ref (eAd E 9)), (1, .int x1), (2, .int x2), (3, .int x3)] [] μ := by
  unfold t_X9_cutLine_9 at h
  refine v_iload_n C 2 rfl rfl dX9_cutLine_9 ?_
  refine v_iconst (v := (-1 : Int32)) C dX9_cutLine_10 (by decide) ?_
  refine v_icmp_eq C 505 (by decide) dX9_cutLine_11 (fun q25 => ?_) (fun q25 => ?_)
  · replace h := h.1 q25
    exact v_vret C hr h dX9_cutLine_505
  · replace h := h.2 q25
    refine v_iload_n C 3 rfl rfl dX9_cutLine_14 ?_
    refine v_if_eq C 161 (by decide) dX9_cutLine_15 (fun q24 => ?_) (fun q24 => ?_)
    · replace h := h.1 q24
      exact so_X9_cutLine_161 C hr hK9 _ _ _ _ h
    · replace h := h.2 q24
      refine v_aload_n C 0 rfl rfl dX9_cutLine_18 ?_
      refine gf_X9_66 C dX9_cutLine_19 ?_
      refine v_aload_n C 0 rfl rfl dX9_cutLine_22 ?_
      refine gf_X9_150 C dX9_cutLine_23 ?_
      refine v_iload_n C 2 rfl rfl dX9_cutLine_26 ?_
      obtain ⟨b1, h⟩ := h
      refine v_iast C 63 (by decide) rfl b1 dX9_cutLine_27 ?_
      refine v_nmM (fun μ2 e_μ2 => ?_)
      replace h := h μ2 e_μ2
      refine v_aload_n C 0 rfl rfl dX9_cutLine_28 ?_
      refine gf_X9_69 C dX9_cutLine_29 ?_
      refine v_aload_n C 0 rfl rfl dX9_cutLine_32 ?_
      refine gf_X9_150 C dX9_cutLine_33 ?_
      refine v_iload_n C 1 rfl rfl dX9_cutLine_36 ?_
      obtain ⟨b3, h⟩ := h
      refine v_iast C 64 (by decide) rfl b3 dX9_cutLine_37 ?_
      refine v_nmM (fun μ4 e_μ4 => ?_)
      replace h := h μ4 e_μ4
      refine v_aload_n C 0 rfl rfl dX9_cutLine_38 ?_
      refine gf_X9_72 C dX9_cutLine_39 ?_
      refine v_aload_n C 0 rfl rfl dX9_cutLine_42 ?_
      refine gf_X9_150 C dX9_cutLine_43 ?_
      refine v_aload_n C 0 rfl rfl dX9_cutLine_46 ?_
      refine gf_X9_39 C dX9_cutLine_47 ?_
      refine v_iload_n C 2 rfl rfl dX9_cutLine_50 ?_
      obtain ⟨b5, h⟩ := h
      refine v_lald C 54 (by decide) rfl b5 dX9_cutLine_51 ?_
      obtain ⟨b6, h⟩ := h
      refine v_last C 65 (by decide) rfl b6 dX9_cutLine_52 ?_
      refine v_nmM (fun μ7 e_μ7 => ?_)
      replace h := h μ7 e_μ7
      refine v_aload_n C 0 rfl rfl dX9_cutLine_53 ?_
      refine gf_X9_75 C dX9_cutLine_54 ?_
      refine v_aload_n C 0 rfl rfl dX9_cutLine_57 ?_
      refine gf_X9_150 C dX9_cutLine_58 ?_
      refine v_aload_n C 0 rfl rfl dX9_cutLine_61 ?_
      refine gf_X9_39 C dX9_cutLine_62 ?_
      refine v_iload_n C 2 rfl rfl dX9_cutLine_65 ?_
      obtain ⟨b8, h⟩ := h
      refine v_lald C 54 (by decide) rfl b8 dX9_cutLine_66 ?_
      refine v_aload_n C 0 rfl rfl dX9_cutLine_67 ?_
      refine gf_X9_20 C dX9_cutLine_68 ?_
      refine v_iload_n C 2 rfl rfl dX9_cutLine_71 ?_
      obtain ⟨b9, h⟩ := h
      refine v_lald C 48 (by decide) rfl b9 dX9_cutLine_72 ?_
      refine v_ladd C dX9_cutLine_73 ?_
      obtain ⟨b10, h⟩ := h
      refine v_last C 66 (by decide) rfl b10 dX9_cutLine_74 ?_
      refine v_nmM (fun μ11 e_μ11 => ?_)
      replace h := h μ11 e_μ11
      refine v_aload_n C 0 rfl rfl dX9_cutLine_75 ?_
      refine gf_X9_78 C dX9_cutLine_76 ?_
      refine v_aload_n C 0 rfl rfl dX9_cutLine_79 ?_
      refine gf_X9_150 C dX9_cutLine_80 ?_
      refine v_aload_n C 0 rfl rfl dX9_cutLine_83 ?_
      refine gf_X9_42 C dX9_cutLine_84 ?_
      refine v_iload_n C 2 rfl rfl dX9_cutLine_87 ?_
      obtain ⟨b12, h⟩ := h
      refine v_lald C 55 (by decide) rfl b12 dX9_cutLine_88 ?_
      refine v_aload_n C 0 rfl rfl dX9_cutLine_89 ?_
      refine gf_X9_23 C dX9_cutLine_90 ?_
      refine v_iload_n C 2 rfl rfl dX9_cutLine_93 ?_
      obtain ⟨b13, h⟩ := h
      refine v_iald C 49 (by decide) rfl b13 dX9_cutLine_94 ?_
      refine v_i2l C dX9_cutLine_95 ?_
      refine v_ladd C dX9_cutLine_96 ?_
      obtain ⟨b14, h⟩ := h
      refine v_last C 67 (by decide) rfl b14 dX9_cutLine_97 ?_
      refine v_nmM (fun μ15 e_μ15 => ?_)
      replace h := h μ15 e_μ15
      refine v_aload_n C 0 rfl rfl dX9_cutLine_98 ?_
      refine gf_X9_81 C dX9_cutLine_99 ?_
      refine v_aload_n C 0 rfl rfl dX9_cutLine_102 ?_
      refine gf_X9_150 C dX9_cutLine_103 ?_
      refine v_aload_n C 0 rfl rfl dX9_cutLine_106 ?_
      refine gf_X9_42 C dX9_cutLine_107 ?_
      refine v_iload_n C 2 rfl rfl dX9_cutLine_110 ?_
      obtain ⟨b16, h⟩ := h
      refine v_lald C 55 (by decide) rfl b16 dX9_cutLine_111 ?_
      obtain ⟨b17, h⟩ := h
      refine v_last C 68 (by decide) rfl b17 dX9_cutLine_112 ?_
      refine v_nmM (fun μ18 e_μ18 => ?_)
      replace h := h μ18 e_μ18
      refine v_aload_n C 0 rfl rfl dX9_cutLine_113 ?_
      refine gf_X9_84 C dX9_cutLine_114 ?_
      refine v_aload_n C 0 rfl rfl dX9_cutLine_117 ?_
      refine gf_X9_150 C dX9_cutLine_118 ?_
      refine v_aload_n C 0 rfl rfl dX9_cutLine_121 ?_
      refine gf_X9_23 C dX9_cutLine_122 ?_
      refine v_iload_n C 2 rfl rfl dX9_cutLine_125 ?_
      obtain ⟨b19, h⟩ := h
      refine v_iald C 49 (by decide) rfl b19 dX9_cutLine_126 ?_
      obtain ⟨b20, h⟩ := h
      refine v_iast C 69 (by decide) rfl b20 dX9_cutLine_127 ?_
      refine v_nmM (fun μ21 e_μ21 => ?_)
      replace h := h μ21 e_μ21
      refine v_aload_n C 0 rfl rfl dX9_cutLine_128 ?_
      refine gf_X9_87 C dX9_cutLine_129 ?_
      refine v_aload_n C 0 rfl rfl dX9_cutLine_132 ?_
      refine gf_X9_150 C dX9_cutLine_133 ?_
      refine v_aload_n C 0 rfl rfl dX9_cutLine_136 ?_
      refine gf_X9_26 C dX9_cutLine_137 ?_
      refine v_iload_n C 2 rfl rfl dX9_cutLine_140 ?_
      obtain ⟨b22, h⟩ := h
      refine v_zald C 50 (by decide) rfl b22 dX9_cutLine_141 ?_
      refine v_if_eq C 149 (by decide) dX9_cutLine_142 (fun q23 => ?_) (fun q23 => ?_)
      · replace h := h.1 q23
        refine v_iconst (v := (0 : Int32)) C dX9_cutLine_149 (by decide) ?_
        exact so_X9_cutLine_150 C hr hK9 _ _ _ _ _ _ h
      · replace h := h.2 q23
        refine v_iconst (v := (1 : Int32)) C dX9_cutLine_145 (by decide) ?_
        refine v_goto C 150 (by decide) dX9_cutLine_146 ?_
        exact so_X9_cutLine_150 C hr hK9 _ _ _ _ _ _ h
set_option maxRecDepth 10000 in
set_option maxHeartbeats 4000000 in
theorem so_X9_cutLine_0 {p : Program} {l : Launch} {e : Env} {s : State} {m : MethodId} {args : Array Value} {below : List Frame} {meth : Method} {c : Code} {E : EvT} {P : MemT → Prop} (C : Cx p s m args meth c E cX9_cutLine 8 RX9) (hr : meth.sig.returnType = none) {K9 : Int32 → Int32 → Int32 → MemT → Prop} (hK9 : ∀ (x1 : Int32) (x2 : Int32) (x3 : Int32) (μ : MemT), K9 x1 x2 x3 μ → V p l e (rmN 1 25) s m args below meth c E 8 0 0 (MQ below (va_Qv P (wdP E) (eA E s.heap.size)) args s 0 0 (eA E s.heap.size)) 9 [(0, .ref (eAd E 9)), (1, .int x1), (2, .int x2), (3, .int x3)] [] μ) (x1 : Int32) (μ : MemT) (h : t_X9_cutLine_0 K9 P x1 μ) : V p l e (rmN 1 25) s m args below meth c E 8 0 0 (MQ below (va_Qv P (wdP E) (eA E s.heap.size)) args s 0 0 (eA E s.heap.size)) 0 [(0, .ref (eAd E 9)), (1, .int x1)] [] μ := by
  unfold t_X9_cutLine_0 at h
  refine v_aload_n C 0 rfl rfl dX9_cutLine_0 ?_
  refine v_iload_n C 1 rfl rfl dX9_cutLine_1 ?_
  refine v_iconst (v := (-1 : Int32)) C dX9_cutLine_2 (by decide) ?_
  obtain ⟨P1, hs, h⟩ := h
  refine v_callVi C 9 [.int x1, .int (-1 : Int32)] (by decide) rfl rfl rfl (so_X9_behind x1 (-1 : Int32) μ P1 hs) gw_X9_163 rfl rfl dd_X9_behind ⟨by decide, by decide⟩ rfl rfl (Nat.le_of_ble_eq_true rfl) ⟨by decide, by decide⟩ dX9_cutLine_3 (fun r4 μ2 q3 => ?_)
  replace h := h r4 μ2 q3
  refine v_istore_n C [(2, .int r4), (0, .ref (eAd E 9)), (1, .int x1)] rfl (by decide) rfl dX9_cutLine_6 ?_
  refine v_iconst (v := (1 : Int32)) C dX9_cutLine_7 (by decide) ?_
  refine v_istore_n C [(3, .int (1 : Int32)), (2, .int r4), (0, .ref (eAd E 9)), (1, .int x1)] rfl (by decide) rfl dX9_cutLine_8 ?_
  refine v_sub C [2, 3, 1, 0] rfl ?_
  exact hK9 _ _ _ _ h
set_option maxRecDepth 10000 in
set_option maxHeartbeats 4000000 in
theorem so_X9_cutLine {l : Launch} {E : EvT} (x1 : Int32) (μ : MemT) (P : MemT → Prop) (h : sp_X9_cutLine x1 μ P) : MCv l E yX9_cutLine cX9_cutLine 8 none (rmN 1 25) [.ref (eAd E 9), .int x1] μ P := by
  refine mc_entryv (by decide +kernel) (Nat.le_of_ble_eq_true rfl) (fun p e s m below meth c C hr => ?_)
  have h0 := h (fun x1_ x2_ x3_ μ => V p l e (rmN 1 25) s m ([.ref (eAd E 9), .int x1] : List Value).toArray below meth c E 8 0 0 (MQ below (va_Qv P (wdP E) (eA E s.heap.size)) ([.ref (eAd E 9), .int x1] : List Value).toArray s 0 0 (eA E s.heap.size)) 9 [(0, .ref (eAd E 9)), (1, .int x1_), (2, .int x2_), (3, .int x3_)] [] μ) (fun x1 x2 x3 μ ht => so_X9_cutLine_9 C hr (fun x1 x2 x3 μ hk => hk) x1 x2 x3 μ ht) 
  exact so_X9_cutLine_0 C hr (fun x1 x2 x3 μ hk => hk) x1 μ h0
set_option maxRecDepth 10000 in
set_option maxHeartbeats 4000000 in
theorem so_X9_findLines_167 {p : Program} {l : Launch} {e : Env} {s : State} {m : MethodId} {args : Array Value} {below : List Frame} {meth : Method} {c : Code} {E : EvT} {P : MemT → Prop} (C : Cx p s m args meth c E cX9_findLines 5 RX9) (hr : meth.sig.returnType = none) {K9 : Int32 → Int32 → MemT → Prop} (hK9 : ∀ (x1 : Int32) (x2 : Int32) (μ : MemT), K9 x1 x2 μ → V p l e (rmN 2 52) s m args below meth c E 5 0 0 (MQ below (va_Qv P (wdP E) (eA E s.heap.size)) args s 0 0 (eA E s.heap.size)) 9 [(0, .ref (eAd E 9)), (1, .int x1), (2, .int x2)] [] μ) {K18 : Int32 → Int32 → Int32 → MemT → Prop} (hK18 : ∀ (x1 : Int32) (x2 : Int32) (x3 : Int32) (μ : MemT), K18 x1 x2 x3 μ → V p l e (rmN 2 52) s m args below meth c E 5 0 0 (MQ below (va_Qv P (wdP E) (eA E s.heap.size)) args s 0 0 (eA E s.heap.size)) 18 [(0, .ref (eAd E 9)), (1, .int x1), (2, .int x2), (3, .int x3)] [] μ) {K91 : Int32 → Int32 → Int32 → MemT → Prop} (hK91 : ∀ (x1 : Int32) (x2 : Int32) (x3 : Int32) (μ : MemT), K91 x1 x2 x3 μ → V p l e (rmN 2 52) s m args below meth c E 5 0 0 (MQ below (va_Qv P (wdP E) (eA E s.heap.size)) args s 0 0 (eA E s.heap.size)) 91 [(0, .ref (eAd E 9)), (1, .int x1), (2, .int x2), (3, .int x3)] [] μ) (x1 : Int32) (x2 : Int32) (x3 : Int32) (y0 : Int32) (μ : MemT) (h : t_X9_findLines_167 K9 K18 K91 P x1 x2 x3 y0 μ) : V p l e (rmN 2 52) s m args below meth c E 5 0 0 (MQ below (va_Qv P (wdP E) (eA E s.heap.size)) args s 0 0 (eA E s.heap.size)) 167 [(0, .ref (eAd E 9)), (1, .int x1), (2, .int x2), (3, .int x3)] [.int y0] μ := by
  unfold t_X9_findLines_167 at h
  refine v_istore C [(4, .int y0), (0, .ref (eAd E 9)), (1, .int x1), (2, .int x2), (3, .int x3)] (by decide) rfl dX9_findLines_167 ?_
  refine v_aload_n C 1 rfl rfl dX9_findLines_169 ?_
  refine gf_X9_54 C dX9_findLines_170 ?_
  refine v_iload_n C 4 rfl rfl dX9_findLines_173 ?_
  refine v_iload C 0 rfl dX9_findLines_174 ?_
  refine v_if_eq C 183 (by decide) dX9_findLines_176 (fun q6 => ?_) (fun q6 => ?_)
  · replace h := h.1 q6
    refine v_aload_n C 1 rfl rfl dX9_findLines_183 ?_
    refine gf_X9_54 C dX9_findLines_184 ?_
    refine v_iload_n C 4 rfl rfl dX9_findLines_187 ?_
    obtain ⟨b1, h⟩ := h
    refine v_iald C 59 (by decide) rfl b1 dX9_findLines_188 ?_
    obtain ⟨b2, h⟩ := h
    refine v_iast C 59 (by decide) rfl b2 dX9_findLines_189 ?_
    refine v_nmM (fun μ3 e_μ3 => ?_)
    replace h := h μ3 e_μ3
    refine v_iinc (v := (x3 + 1)) C 4 [(3, .int (x3 + 1)), (4, .int y0), (0, .ref (eAd E 9)), (1, .int x1), (2, .int x2)] rfl rfl (by decide) rfl dX9_findLines_190 ?_
    refine v_goto C 91 (by decide) dX9_findLines_193 ?_
    refine v_sub C [2, 3, 4, 0] rfl ?_
    exact hK91 _ _ _ _ h
  · replace h := h.2 q6
    refine v_iload_n C 2 rfl rfl dX9_findLines_179 ?_
    refine v_goto C 189 (by decide) dX9_findLines_180 ?_
    obtain ⟨b4, h⟩ := h
    refine v_iast C 59 (by decide) rfl b4 dX9_findLines_189 ?_
    refine v_nmM (fun μ5 e_μ5 => ?_)
    replace h := h μ5 e_μ5
    refine v_iinc (v := (x3 + 1)) C 4 [(3, .int (x3 + 1)), (4, .int y0), (0, .ref (eAd E 9)), (1, .int x1), (2, .int x2)] rfl rfl (by decide) rfl dX9_findLines_190 ?_
    refine v_goto C 91 (by decide) dX9_findLines_193 ?_
    refine v_sub C [2, 3, 4, 0] rfl ?_
    exact hK91 _ _ _ _ h
set_option maxRecDepth 10000 in
set_option maxHeartbeats 4000000 in
theorem so_X9_findLines_166 {p : Program} {l : Launch} {e : Env} {s : State} {m : MethodId} {args : Array Value} {below : List Frame} {meth : Method} {c : Code} {E : EvT} {P : MemT → Prop} (C : Cx p s m args meth c E cX9_findLines 5 RX9) (hr : meth.sig.returnType = none) {K9 : Int32 → Int32 → MemT → Prop} (hK9 : ∀ (x1 : Int32) (x2 : Int32) (μ : MemT), K9 x1 x2 μ → V p l e (rmN 2 52) s m args below meth c E 5 0 0 (MQ below (va_Qv P (wdP E) (eA E s.heap.size)) args s 0 0 (eA E s.heap.size)) 9 [(0, .ref (eAd E 9)), (1, .int x1), (2, .int x2)] [] μ) {K18 : Int32 → Int32 → Int32 → MemT → Prop} (hK18 : ∀ (x1 : Int32) (x2 : Int32) (x3 : Int32) (μ : MemT), K18 x1 x2 x3 μ → V p l e (rmN 2 52) s m args below meth c E 5 0 0 (MQ below (va_Qv P (wdP E) (eA E s.heap.size)) args s 0 0 (eA E s.heap.size)) 18 [(0, .ref (eAd E 9)), (1, .int x1), (2, .int x2), (3, .int x3)] [] μ) {K91 : Int32 → Int32 → Int32 → MemT → Prop} (hK91 : ∀ (x1 : Int32) (x2 : Int32) (x3 : Int32) (μ : MemT), K91 x1 x2 x3 μ → V p l e (rmN 2 52) s m args below meth c E 5 0 0 (MQ below (va_Qv P (wdP E) (eA E s.heap.size)) args s 0 0 (eA E s.heap.size)) 91 [(0, .ref (eAd E 9)), (1, .int x1), (2, .int x2), (3, .int x3)] [] μ) (x1 : Int32) (x2 : Int32) (x3 : Int32) (μ : MemT) (h : t_X9_findLines_166 K9 K18 K91 P x1 x2 x3 μ) : V p l e (rmN 2 52) s m args below meth c E 5 0 0 (MQ below (va_Qv P (wdP E) (eA E s.heap.size)) args s 0 0 (eA E s.heap.size)) 166 [(0, .ref (eAd E 9)), (1, .int x1), (2, .int x2), (3, .int x3)] [] μ := by
  unfold t_X9_findLines_166 at h
  refine v_iconst (v := (0 : Int32)) C dX9_findLines_166 (by decide) ?_
  exact so_X9_findLines_167 C hr hK9 hK18 hK91 _ _ _ _ _ h
set_option maxRecDepth 10000 in
set_option maxHeartbeats 4000000 in
theorem so_X9_findLines_51 {p : Program} {l : Launch} {e : Env} {s : State} {m : MethodId} {args : Array Value} {below : List Frame} {meth : Method} {c : Code} {E : EvT} {P : MemT → Prop} (C : Cx p s m args meth c E cX9_findLines 5 RX9) (hr : meth.sig.returnType = none) {K9 : Int32 → Int32 → MemT → Prop} (hK9 : ∀ (x1 : Int32) (x2 : Int32) (μ : MemT), K9 x1 x2 μ → V p l e (rmN 2 52) s m args below meth c E 5 0 0 (MQ below (va_Qv P (wdP E) (eA E s.heap.size)) args s 0 0 (eA E s.heap.size)) 9 [(0, .ref (eAd E 9)), (1, .int x1), (2, .int x2)] [] μ) {K18 : Int32 → Int32 → Int32 → MemT → Prop} (hK18 : ∀ (x1 : Int32) (x2 : Int32) (x3 : Int32) (μ : MemT), K18 x1 x2 x3 μ → V p l e (rmN 2 52) s m args below meth c E 5 0 0 (MQ below (va_Qv P (wdP E) (eA E s.heap.size)) args s 0 0 (eA E s.heap.size)) 18 [(0, .ref (eAd E 9)), (1, .int x1), (2, .int x2), (3, .int x3)] [] μ) {K91 : Int32 → Int32 → Int32 → MemT → Prop} (hK91 : ∀ (x1 : Int32) (x2 : Int32) (x3 : Int32) (μ : MemT), K91 x1 x2 x3 μ → V p l e (rmN 2 52) s m args below meth c E 5 0 0 (MQ below (va_Qv P (wdP E) (eA E s.heap.size)) args s 0 0 (eA E s.heap.size)) 91 [(0, .ref (eAd E 9)), (1, .int x1), (2, .int x2), (3, .int x3)] [] μ) (x1 : Int32) (x2 : Int32) (x3 : Int32) (y0 : Int32) (μ : MemT) (h : t_X9_findLines_51 K9 K18 K91 P x1 x2 x3 y0 μ) : V p l e (rmN 2 52) s m args below meth c E 5 0 0 (MQ below (va_Qv P (wdP E) (eA E s.heap.size)) args s 0 0 (eA E s.heap.size)) 51 [(0, .ref (eAd E 9)), (1, .int x1), (2, .int x2), (3, .int x3)] [.int y0] μ := by
  unfold t_X9_findLines_51 at h
  refine v_istore C [(4, .int y0), (0, .ref (eAd E 9)), (1, .int x1), (2, .int x2), (3, .int x3)] (by decide) rfl dX9_findLines_51 ?_
  refine v_iload C 0 rfl dX9_findLines_53 ?_
  refine v_if_eq C 76 (by decide) dX9_findLines_55 (fun q7 => ?_) (fun q7 => ?_)
  · replace h := h.1 q7
    refine v_iload_n C 3 rfl rfl dX9_findLines_76 ?_
    refine v_istore_n C [(2, .int x2), (4, .int y0), (0, .ref (eAd E 9)), (1, .int x1), (3, .int x3)] rfl (by decide) rfl dX9_findLines_77 ?_
    refine v_iinc (v := (x3 + 1)) C 4 [(3, .int (x3 + 1)), (2, .int x2), (4, .int y0), (0, .ref (eAd E 9)), (1, .int x1)] rfl rfl (by decide) rfl dX9_findLines_78 ?_
    refine v_goto C 18 (by decide) dX9_findLines_81 ?_
    refine v_sub C [3, 4, 1, 0] rfl ?_
    exact hK18 _ _ _ _ h
  · replace h := h.2 q7
    refine v_iload_n C 3 rfl rfl dX9_findLines_58 ?_
    refine v_iconst (v := (-1 : Int32)) C dX9_findLines_59 (by decide) ?_
    refine v_icmp_eq C 72 (by decide) dX9_findLines_60 (fun q6 => ?_) (fun q6 => ?_)
    · replace h := h.1 q6
      refine v_iload_n C 4 rfl rfl dX9_findLines_72 ?_
      refine v_goto C 77 (by decide) dX9_findLines_73 ?_
      refine v_istore_n C [(2, .int x3), (4, .int y0), (0, .ref (eAd E 9)), (1, .int x1), (3, .int x3)] rfl (by decide) rfl dX9_findLines_77 ?_
      refine v_iinc (v := (x3 + 1)) C 4 [(3, .int (x3 + 1)), (2, .int x3), (4, .int y0), (0, .ref (eAd E 9)), (1, .int x1)] rfl rfl (by decide) rfl dX9_findLines_78 ?_
      refine v_goto C 18 (by decide) dX9_findLines_81 ?_
      refine v_sub C [3, 4, 1, 0] rfl ?_
      exact hK18 _ _ _ _ h
    · replace h := h.2 q6
      refine v_aload_n C 1 rfl rfl dX9_findLines_63 ?_
      refine v_iload_n C 4 rfl rfl dX9_findLines_64 ?_
      refine v_iload_n C 3 rfl rfl dX9_findLines_65 ?_
      obtain ⟨P1, hs, h⟩ := h
      refine v_callVi C 9 [.int x3, .int x2] (by decide) rfl rfl rfl (so_X9_isHigher x3 x2 μ P1 hs) gw_X9_153 rfl rfl dd_X9_isHigher ⟨by decide, by decide⟩ rfl rfl (Nat.le_of_ble_eq_true rfl) ⟨by decide, by decide⟩ dX9_findLines_66 (fun r4 μ2 q3 => ?_)
      replace h := h r4 μ2 q3
      refine v_if_eq C 76 (by decide) dX9_findLines_69 (fun q5 => ?_) (fun q5 => ?_)
      · replace h := h.1 q5
        refine v_iload_n C 3 rfl rfl dX9_findLines_76 ?_
        refine v_istore_n C [(2, .int x2), (4, .int y0), (0, .ref (eAd E 9)), (1, .int x1), (3, .int x3)] rfl (by decide) rfl dX9_findLines_77 ?_
        refine v_iinc (v := (x3 + 1)) C 4 [(3, .int (x3 + 1)), (2, .int x2), (4, .int y0), (0, .ref (eAd E 9)), (1, .int x1)] rfl rfl (by decide) rfl dX9_findLines_78 ?_
        refine v_goto C 18 (by decide) dX9_findLines_81 ?_
        refine v_sub C [3, 4, 1, 0] rfl ?_
        exact hK18 _ _ _ _ h
      · replace h := h.2 q5
        refine v_iload_n C 4 rfl rfl dX9_findLines_72 ?_
        refine v_goto C 77 (by decide) dX9_findLines_73 ?_
        refine v_istore_n C [(2, .int x3), (4, .int y0), (0, .ref (eAd E 9)), (1, .int x1), (3, .int x3)] rfl (by decide) rfl dX9_findLines_77 ?_
        refine v_iinc (v := (x3 + 1)) C 4 [(3, .int (x3 + 1)), (2, .int x3), (4, .int y0), (0, .ref (eAd E 9)), (1, .int x1)] rfl rfl (by decide) rfl dX9_findLines_78 ?_
        refine v_goto C 18 (by decide) dX9_findLines_81 ?_
        refine v_sub C [3, 4, 1, 0] rfl ?_
        exact hK18 _ _ _ _ h
set_option maxRecDepth 10000 in
set_option maxHeartbeats 4000000 in
theorem so_X9_findLines_50 {p : Program} {l : Launch} {e : Env} {s : State} {m : MethodId} {args : Array Value} {below : List Frame} {meth : Method} {c : Code} {E : EvT} {P : MemT → Prop} (C : Cx p s m args meth c E cX9_findLines 5 RX9) (hr : meth.sig.returnType = none) {K9 : Int32 → Int32 → MemT → Prop} (hK9 : ∀ (x1 : Int32) (x2 : Int32) (μ : MemT), K9 x1 x2 μ → V p l e (rmN 2 52) s m args below meth c E 5 0 0 (MQ below (va_Qv P (wdP E) (eA E s.heap.size)) args s 0 0 (eA E s.heap.size)) 9 [(0, .ref (eAd E 9)), (1, .int x1), (2, .int x2)] [] μ) {K18 : Int32 → Int32 → Int32 → MemT → Prop} (hK18 : ∀ (x1 : Int32) (x2 : Int32) (x3 : Int32) (μ : MemT), K18 x1 x2 x3 μ → V p l e (rmN 2 52) s m args below meth c E 5 0 0 (MQ below (va_Qv P (wdP E) (eA E s.heap.size)) args s 0 0 (eA E s.heap.size)) 18 [(0, .ref (eAd E 9)), (1, .int x1), (2, .int x2), (3, .int x3)] [] μ) {K91 : Int32 → Int32 → Int32 → MemT → Prop} (hK91 : ∀ (x1 : Int32) (x2 : Int32) (x3 : Int32) (μ : MemT), K91 x1 x2 x3 μ → V p l e (rmN 2 52) s m args below meth c E 5 0 0 (MQ below (va_Qv P (wdP E) (eA E s.heap.size)) args s 0 0 (eA E s.heap.size)) 91 [(0, .ref (eAd E 9)), (1, .int x1), (2, .int x2), (3, .int x3)] [] μ) (x1 : Int32) (x2 : Int32) (x3 : Int32) (μ : MemT) (h : t_X9_findLines_50 K9 K18 K91 P x1 x2 x3 μ) : V p l e (rmN 2 52) s m args below meth c E 5 0 0 (MQ below (va_Qv P (wdP E) (eA E s.heap.size)) args s 0 0 (eA E s.heap.size)) 50 [(0, .ref (eAd E 9)), (1, .int x1), (2, .int x2), (3, .int x3)] [] μ := by
  unfold t_X9_findLines_50 at h
  refine v_iconst (v := (0 : Int32)) C dX9_findLines_50 (by decide) ?_
  exact so_X9_findLines_51 C hr hK9 hK18 hK91 _ _ _ _ _ h
set_option maxRecDepth 10000 in
set_option maxHeartbeats 4000000 in
theorem so_X9_findLines_91 {p : Program} {l : Launch} {e : Env} {s : State} {m : MethodId} {args : Array Value} {below : List Frame} {meth : Method} {c : Code} {E : EvT} {P : MemT → Prop} (C : Cx p s m args meth c E cX9_findLines 5 RX9) (hr : meth.sig.returnType = none) {K9 : Int32 → Int32 → MemT → Prop} (hK9 : ∀ (x1 : Int32) (x2 : Int32) (μ : MemT), K9 x1 x2 μ → V p l e (rmN 2 52) s m args below meth c E 5 0 0 (MQ below (va_Qv P (wdP E) (eA E s.heap.size)) args s 0 0 (eA E s.heap.size)) 9 [(0, .ref (eAd E 9)), (1, .int x1), (2, .int x2)] [] μ) {K18 : Int32 → Int32 → Int32 → MemT → Prop} (hK18 : ∀ (x1 : Int32) (x2 : Int32) (x3 : Int32) (μ : MemT), K18 x1 x2 x3 μ → V p l e (rmN 2 52) s m args below meth c E 5 0 0 (MQ below (va_Qv P (wdP E) (eA E s.heap.size)) args s 0 0 (eA E s.heap.size)) 18 [(0, .ref (eAd E 9)), (1, .int x1), (2, .int x2), (3, .int x3)] [] μ) {K91 : Int32 → Int32 → Int32 → MemT → Prop} (hK91 : ∀ (x1 : Int32) (x2 : Int32) (x3 : Int32) (μ : MemT), K91 x1 x2 x3 μ → V p l e (rmN 2 52) s m args below meth c E 5 0 0 (MQ below (va_Qv P (wdP E) (eA E s.heap.size)) args s 0 0 (eA E s.heap.size)) 91 [(0, .ref (eAd E 9)), (1, .int x1), (2, .int x2), (3, .int x3)] [] μ) (x1 : Int32) (x2 : Int32) (x3 : Int32) (μ : MemT) (h : t_X9_findLines_91 K9 K18 K91 P x1 x2 x3 μ) : V p l e (rmN 2 52) s m args below meth c E 5 0 0 (MQ below (va_Qv P (wdP E) (eA E s.heap.size)) args s 0 0 (eA E s.heap.size)) 91 [(0, .ref (eAd E 9)), (1, .int x1), (2, .int x2), (3, .int x3)] [] μ := by
  unfold t_X9_findLines_91 at h
  refine v_iload_n C 3 rfl rfl dX9_findLines_91 ?_
  refine v_aload_n C 0 rfl rfl dX9_findLines_92 ?_
  refine gf_X9_105 C dX9_findLines_93 ?_
  refine v_icmp_ge C 196 (by decide) dX9_findLines_96 (fun q15 => ?_) (fun q15 => ?_)
  · replace h := h.1 q15
    refine v_aload_n C 0 rfl rfl dX9_findLines_196 ?_
    refine v_iload_n C 1 rfl rfl dX9_findLines_197 ?_
    obtain ⟨P1, hs, h⟩ := h
    refine v_callVv C 9 [.int x1] (by decide) rfl rfl rfl (so_X9_cutLine x1 μ P1 hs) gw_X9_159 rfl rfl dd_X9_cutLine ⟨by decide, by decide⟩ rfl rfl (Nat.le_of_ble_eq_true rfl) ⟨by decide, by decide⟩ dX9_findLines_198 (fun μ2 q3 => ?_)
    replace h := h μ2 q3
    refine v_iinc (v := (x1 + 1)) C 1 [(1, .int (x1 + 1)), (0, .ref (eAd E 9)), (2, .int x2), (3, .int x3)] rfl rfl (by decide) rfl dX9_findLines_201 ?_
    refine v_goto C 9 (by decide) dX9_findLines_204 ?_
    refine v_sub C [1, 0, 2] rfl ?_
    exact hK9 _ _ _ h
  · replace h := h.2 q15
    refine v_aload_n C 0 rfl rfl dX9_findLines_99 ?_
    refine gf_X9_51 C dX9_findLines_100 ?_
    refine v_iload_n C 3 rfl rfl dX9_findLines_103 ?_
    obtain ⟨b4, h⟩ := h
    refine v_iald C 58 (by decide) rfl b4 dX9_findLines_104 ?_
    refine v_iconst (v := (-1 : Int32)) C dX9_findLines_105 (by decide) ?_
    refine v_icmp_ne C 166 (by decide) dX9_findLines_106 (fun q14 => ?_) (fun q14 => ?_)
    · replace h := h.1 q14
      exact so_X9_findLines_166 C hr hK9 hK18 hK91 _ _ _ _ h
    · replace h := h.2 q14
      refine v_aload_n C 0 rfl rfl dX9_findLines_109 ?_
      refine gf_X9_54 C dX9_findLines_110 ?_
      refine v_iload_n C 3 rfl rfl dX9_findLines_113 ?_
      obtain ⟨b5, h⟩ := h
      refine v_iald C 59 (by decide) rfl b5 dX9_findLines_114 ?_
      refine v_iconst (v := (-1 : Int32)) C dX9_findLines_115 (by decide) ?_
      refine v_icmp_ne C 166 (by decide) dX9_findLines_116 (fun q13 => ?_) (fun q13 => ?_)
      · replace h := h.1 q13
        exact so_X9_findLines_166 C hr hK9 hK18 hK91 _ _ _ _ h
      · replace h := h.2 q13
        refine v_aload_n C 0 rfl rfl dX9_findLines_119 ?_
        refine gf_X9_26 C dX9_findLines_120 ?_
        refine v_iload_n C 3 rfl rfl dX9_findLines_123 ?_
        obtain ⟨b6, h⟩ := h
        refine v_zald C 50 (by decide) rfl b6 dX9_findLines_124 ?_
        refine v_aload_n C 0 rfl rfl dX9_findLines_125 ?_
        refine gf_X9_26 C dX9_findLines_126 ?_
        refine v_iload_n C 2 rfl rfl dX9_findLines_129 ?_
        obtain ⟨b7, h⟩ := h
        refine v_zald C 50 (by decide) rfl b7 dX9_findLines_130 ?_
        refine v_icmp_ne C 166 (by decide) dX9_findLines_131 (fun q12 => ?_) (fun q12 => ?_)
        · replace h := h.1 q12
          exact so_X9_findLines_166 C hr hK9 hK18 hK91 _ _ _ _ h
        · replace h := h.2 q12
          refine v_ldc2 C gc_X9_157 dX9_findLines_134 ?_
          refine v_aload_n C 0 rfl rfl dX9_findLines_137 ?_
          refine gf_X9_42 C dX9_findLines_138 ?_
          refine v_iload_n C 2 rfl rfl dX9_findLines_141 ?_
          obtain ⟨b8, h⟩ := h
          refine v_lald C 55 (by decide) rfl b8 dX9_findLines_142 ?_
          refine v_aload_n C 0 rfl rfl dX9_findLines_143 ?_
          refine gf_X9_42 C dX9_findLines_144 ?_
          refine v_iload_n C 3 rfl rfl dX9_findLines_147 ?_
          obtain ⟨b9, h⟩ := h
          refine v_lald C 55 (by decide) rfl b9 dX9_findLines_148 ?_
          refine v_lsub C dX9_findLines_149 ?_
          refine v_lmul C dX9_findLines_150 ?_
          refine v_aload_n C 0 rfl rfl dX9_findLines_151 ?_
          refine gf_X9_23 C dX9_findLines_152 ?_
          refine v_iload_n C 2 rfl rfl dX9_findLines_155 ?_
          obtain ⟨b10, h⟩ := h
          refine v_iald C 49 (by decide) rfl b10 dX9_findLines_156 ?_
          refine v_i2l C dX9_findLines_157 ?_
          refine v_lcmp_gt C 166 (by decide) dX9_findLines_158 dX9_findLines_159 (fun q11 => ?_) (fun q11 => ?_)
          · replace h := h.1 q11
            exact so_X9_findLines_166 C hr hK9 hK18 hK91 _ _ _ _ h
          · replace h := h.2 q11
            refine v_iconst (v := (1 : Int32)) C dX9_findLines_162 (by decide) ?_
            refine v_goto C 167 (by decide) dX9_findLines_163 ?_
            exact so_X9_findLines_167 C hr hK9 hK18 hK91 _ _ _ _ _ h
set_option maxRecDepth 10000 in
set_option maxHeartbeats 4000000 in
theorem so_X9_findLines_18 {p : Program} {l : Launch} {e : Env} {s : State} {m : MethodId} {args : Array Value} {below : List Frame} {meth : Method} {c : Code} {E : EvT} {P : MemT → Prop} (C : Cx p s m args meth c E cX9_findLines 5 RX9) (hr : meth.sig.returnType = none) {K9 : Int32 → Int32 → MemT → Prop} (hK9 : ∀ (x1 : Int32) (x2 : Int32) (μ : MemT), K9 x1 x2 μ → V p l e (rmN 2 52) s m args below meth c E 5 0 0 (MQ below (va_Qv P (wdP E) (eA E s.heap.size)) args s 0 0 (eA E s.heap.size)) 9 [(0, .ref (eAd E 9)), (1, .int x1), (2, .int x2)] [] μ) {K18 : Int32 → Int32 → Int32 → MemT → Prop} (hK18 : ∀ (x1 : Int32) (x2 : Int32) (x3 : Int32) (μ : MemT), K18 x1 x2 x3 μ → V p l e (rmN 2 52) s m args below meth c E 5 0 0 (MQ below (va_Qv P (wdP E) (eA E s.heap.size)) args s 0 0 (eA E s.heap.size)) 18 [(0, .ref (eAd E 9)), (1, .int x1), (2, .int x2), (3, .int x3)] [] μ) {K91 : Int32 → Int32 → Int32 → MemT → Prop} (hK91 : ∀ (x1 : Int32) (x2 : Int32) (x3 : Int32) (μ : MemT), K91 x1 x2 x3 μ → V p l e (rmN 2 52) s m args below meth c E 5 0 0 (MQ below (va_Qv P (wdP E) (eA E s.heap.size)) args s 0 0 (eA E s.heap.size)) 91 [(0, .ref (eAd E 9)), (1, .int x1), (2, .int x2), (3, .int x3)] [] μ) (x1 : Int32) (x2 : Int32) (x3 : Int32) (μ : MemT) (h : t_X9_findLines_18 K9 K18 K91 P x1 x2 x3 μ) : V p l e (rmN 2 52) s m args below meth c E 5 0 0 (MQ below (va_Qv P (wdP E) (eA E s.heap.size)) args s 0 0 (eA E s.heap.size)) 18 [(0, .ref (eAd E 9)), (1, .int x1), (2, .int x2), (3, .int x3)] [] μ := by
  unfold t_X9_findLines_18 at h
  refine v_iload_n C 3 rfl rfl dX9_findLines_18 ?_
  refine v_aload_n C 0 rfl rfl dX9_findLines_19 ?_
  refine gf_X9_105 C dX9_findLines_20 ?_
  refine v_icmp_ge C 84 (by decide) dX9_findLines_23 (fun q6 => ?_) (fun q6 => ?_)
  · replace h := h.1 q6
    refine v_iload_n C 2 rfl rfl dX9_findLines_84 ?_
    refine v_iconst (v := (-1 : Int32)) C dX9_findLines_85 (by decide) ?_
    refine v_icmp_eq C 9 (by decide) dX9_findLines_86 (fun q1 => ?_) (fun q1 => ?_)
    · replace h := h.1 q1
      refine v_sub C [0, 1, 2] rfl ?_
      exact hK9 _ _ _ h
    · replace h := h.2 q1
      refine v_iconst (v := (0 : Int32)) C dX9_findLines_89 (by decide) ?_
      refine v_istore_n C [(3, .int (0 : Int32)), (0, .ref (eAd E 9)), (1, .int x1), (2, .int x2)] rfl (by decide) rfl dX9_findLines_90 ?_
      refine v_sub C [1, 2, 3, 0] rfl ?_
      exact hK91 _ _ _ _ h
  · replace h := h.2 q6
    refine v_aload_n C 0 rfl rfl dX9_findLines_26 ?_
    refine gf_X9_51 C dX9_findLines_27 ?_
    refine v_iload_n C 3 rfl rfl dX9_findLines_30 ?_
    obtain ⟨b2, h⟩ := h
    refine v_iald C 58 (by decide) rfl b2 dX9_findLines_31 ?_
    refine v_iconst (v := (-1 : Int32)) C dX9_findLines_32 (by decide) ?_
    refine v_icmp_ne C 50 (by decide) dX9_findLines_33 (fun q5 => ?_) (fun q5 => ?_)
    · replace h := h.1 q5
      exact so_X9_findLines_50 C hr hK9 hK18 hK91 _ _ _ _ h
    · replace h := h.2 q5
      refine v_aload_n C 0 rfl rfl dX9_findLines_36 ?_
      refine gf_X9_54 C dX9_findLines_37 ?_
      refine v_iload_n C 3 rfl rfl dX9_findLines_40 ?_
      obtain ⟨b3, h⟩ := h
      refine v_iald C 59 (by decide) rfl b3 dX9_findLines_41 ?_
      refine v_iconst (v := (-1 : Int32)) C dX9_findLines_42 (by decide) ?_
      refine v_icmp_ne C 50 (by decide) dX9_findLines_43 (fun q4 => ?_) (fun q4 => ?_)
      · replace h := h.1 q4
        exact so_X9_findLines_50 C hr hK9 hK18 hK91 _ _ _ _ h
      · replace h := h.2 q4
        refine v_iconst (v := (1 : Int32)) C dX9_findLines_46 (by decide) ?_
        refine v_goto C 51 (by decide) dX9_findLines_47 ?_
        exact so_X9_findLines_51 C hr hK9 hK18 hK91 _ _ _ _ _ h
set_option maxRecDepth 10000 in
set_option maxHeartbeats 4000000 in
theorem so_X9_findLines_9 {p : Program} {l : Launch} {e : Env} {s : State} {m : MethodId} {args : Array Value} {below : List Frame} {meth : Method} {c : Code} {E : EvT} {P : MemT → Prop} (C : Cx p s m args meth c E cX9_findLines 5 RX9) (hr : meth.sig.returnType = none) {K9 : Int32 → Int32 → MemT → Prop} (hK9 : ∀ (x1 : Int32) (x2 : Int32) (μ : MemT), K9 x1 x2 μ → V p l e (rmN 2 52) s m args below meth c E 5 0 0 (MQ below (va_Qv P (wdP E) (eA E s.heap.size)) args s 0 0 (eA E s.heap.size)) 9 [(0, .ref (eAd E 9)), (1, .int x1), (2, .int x2)] [] μ) {K18 : Int32 → Int32 → Int32 → MemT → Prop} (hK18 : ∀ (x1 : Int32) (x2 : Int32) (x3 : Int32) (μ : MemT), K18 x1 x2 x3 μ → V p l e (rmN 2 52) s m args below meth c E 5 0 0 (MQ below (va_Qv P (wdP E) (eA E s.heap.size)) args s 0 0 (eA E s.heap.size)) 18 [(0, .ref (eAd E 9)), (1, .int x1), (2, .int x2), (3, .int x3)] [] μ) {K91 : Int32 → Int32 → Int32 → MemT → Prop} (hK91 : ∀ (x1 : Int32) (x2 : Int32) (x3 : Int32) (μ : MemT), K91 x1 x2 x3 μ → V p l e (rmN 2 52) s m args below meth c E 5 0 0 (MQ below (va_Qv P (wdP E) (eA E s.heap.size)) args s 0 0 (eA E s.heap.size)) 91 [(0, .ref (eAd E 9)), (1, .int x1), (2, .int x2), (3, .int x3)] [] μ) (x1 : Int32) (x2 : Int32) (μ : MemT) (h : t_X9_findLines_9 K9 K18 K91 P x1 x2 μ) : V p l e (rmN 2 52) s m args below meth c E 5 0 0 (MQ below (va_Qv P (wdP E) (eA E s.heap.size)) args s 0 0 (eA E s.heap.size)) 9 [(0, .ref (eAd E 9)), (1, .int x1), (2, .int x2)] [] μ := by
  unfold t_X9_findLines_9 at h
  refine v_iload_n C 2 rfl rfl dX9_findLines_9 ?_
  refine v_iconst (v := (-1 : Int32)) C dX9_findLines_10 (by decide) ?_
  refine v_icmp_eq C 207 (by decide) dX9_findLines_11 (fun q1 => ?_) (fun q1 => ?_)
  · replace h := h.1 q1
    exact v_vret C hr h dX9_findLines_207
  · replace h := h.2 q1
    refine v_iconst (v := (-1 : Int32)) C dX9_findLines_14 (by decide) ?_
    refine v_istore_n C [(2, .int (-1 : Int32)), (0, .ref (eAd E 9)), (1, .int x1)] rfl (by decide) rfl dX9_findLines_15 ?_
    refine v_iconst (v := (0 : Int32)) C dX9_findLines_16 (by decide) ?_
    refine v_istore_n C [(3, .int (0 : Int32)), (2, .int (-1 : Int32)), (0, .ref (eAd E 9)), (1, .int x1)] rfl (by decide) rfl dX9_findLines_17 ?_
    refine v_sub C [2, 3, 1, 0] rfl ?_
    exact hK18 _ _ _ _ h
set_option maxRecDepth 10000 in
set_option maxHeartbeats 4000000 in
theorem so_X9_findLines_0 {p : Program} {l : Launch} {e : Env} {s : State} {m : MethodId} {args : Array Value} {below : List Frame} {meth : Method} {c : Code} {E : EvT} {P : MemT → Prop} (C : Cx p s m args meth c E cX9_findLines 5 RX9) (hr : meth.sig.returnType = none) {K9 : Int32 → Int32 → MemT → Prop} (hK9 : ∀ (x1 : Int32) (x2 : Int32) (μ : MemT), K9 x1 x2 μ → V p l e (rmN 2 52) s m args below meth c E 5 0 0 (MQ below (va_Qv P (wdP E) (eA E s.heap.size)) args s 0 0 (eA E s.heap.size)) 9 [(0, .ref (eAd E 9)), (1, .int x1), (2, .int x2)] [] μ) {K18 : Int32 → Int32 → Int32 → MemT → Prop} (hK18 : ∀ (x1 : Int32) (x2 : Int32) (x3 : Int32) (μ : MemT), K18 x1 x2 x3 μ → V p l e (rmN 2 52) s m args below meth c E 5 0 0 (MQ below (va_Qv P (wdP E) (eA E s.heap.size)) args s 0 0 (eA E s.heap.size)) 18 [(0, .ref (eAd E 9)), (1, .int x1), (2, .int x2), (3, .int x3)] [] μ) {K91 : Int32 → Int32 → Int32 → MemT → Prop} (hK91 : ∀ (x1 : Int32) (x2 : Int32) (x3 : Int32) (μ : MemT), K91 x1 x2 x3 μ → V p l e (rmN 2 52) s m args below meth c E 5 0 0 (MQ below (va_Qv P (wdP E) (eA E s.heap.size)) args s 0 0 (eA E s.heap.size)) 91 [(0, .ref (eAd E 9)), (1, .int x1), (2, .int x2), (3, .int x3)] [] μ) (μ : MemT) (h : t_X9_findLines_0 K9 K18 K91 P  μ) : V p l e (rmN 2 52) s m args below meth c E 5 0 0 (MQ below (va_Qv P (wdP E) (eA E s.heap.size)) args s 0 0 (eA E s.heap.size)) 0 [(0, .ref (eAd E 9))] [] μ := by
  unfold t_X9_findLines_0 at h
  refine v_iconst (v := (0 : Int32)) C dX9_findLines_0 (by decide) ?_
  refine v_istore_n C [(1, .int (0 : Int32)), (0, .ref (eAd E 9))] rfl (by decide) rfl dX9_findLines_1 ?_
  refine v_iconst (v := (0 : Int32)) C dX9_findLines_2 (by decide) ?_
  refine v_istore_n C [(2, .int (0 : Int32)), (1, .int (0 : Int32)), (0, .ref (eAd E 9))] rfl (by decide) rfl dX9_findLines_3 ?_
  refine v_aload_n C 2 rfl rfl dX9_findLines_4 ?_
  refine v_iconst (v := (0 : Int32)) C dX9_findLines_5 (by decide) ?_
  refine pf_X9_150 C dX9_findLines_6 ?_
  refine v_nmM (fun μ1 e_μ1 => ?_)
  replace h := h μ1 e_μ1
  refine v_sub C [2, 1, 0] rfl ?_
  exact hK9 _ _ _ h
set_option maxRecDepth 10000 in
set_option maxHeartbeats 4000000 in
theorem so_X9_findLines {l : Launch} {E : EvT} (μ : MemT) (P : MemT → Prop) (h : sp_X9_findLines  μ P) : MCv l E yX9_findLines cX9_findLines 5 none (rmN 2 52) [.ref (eAd E 9)] μ P := by
  refine mc_entryv (by decide +kernel) (Nat.le_of_ble_eq_true rfl) (fun p e s m below meth c C hr => ?_)
  have h0 := h (fun x1_ x2_ μ => V p l e (rmN 2 52) s m ([.ref (eAd E 9)] : List Value).toArray below meth c E 5 0 0 (MQ below (va_Qv P (wdP E) (eA E s.heap.size)) ([.ref (eAd E 9)] : List Value).toArray s 0 0 (eA E s.heap.size)) 9 [(0, .ref (eAd E 9)), (1, .int x1_), (2, .int x2_)] [] μ) (fun x1_ x2_ x3_ μ => V p l e (rmN 2 52) s m ([.ref (eAd E 9)] : List Value).toArray below meth c E 5 0 0 (MQ below (va_Qv P (wdP E) (eA E s.heap.size)) ([.ref (eAd E 9)] : List Value).toArray s 0 0 (eA E s.heap.size)) 18 [(0, .ref (eAd E 9)), (1, .int x1_), (2, .int x2_), (3, .int x3_)] [] μ) (fun x1_ x2_ x3_ μ => V p l e (rmN 2 52) s m ([.ref (eAd E 9)] : List Value).toArray below meth c E 5 0 0 (MQ below (va_Qv P (wdP E) (eA E s.heap.size)) ([.ref (eAd E 9)] : List Value).toArray s 0 0 (eA E s.heap.size)) 91 [(0, .ref (eAd E 9)), (1, .int x1_), (2, .int x2_), (3, .int x3_)] [] μ) (fun x1 x2 μ ht => so_X9_findLines_9 C hr (fun x1 x2 μ hk => hk) (fun x1 x2 x3 μ hk => hk) (fun x1 x2 x3 μ hk => hk) x1 x2 μ ht) (fun x1 x2 x3 μ ht => so_X9_findLines_18 C hr (fun x1 x2 μ hk => hk) (fun x1 x2 x3 μ hk => hk) (fun x1 x2 x3 μ hk => hk) x1 x2 x3 μ ht) (fun x1 x2 x3 μ ht => so_X9_findLines_91 C hr (fun x1 x2 μ hk => hk) (fun x1 x2 x3 μ hk => hk) (fun x1 x2 x3 μ hk => hk) x1 x2 x3 μ ht) 
  exact so_X9_findLines_0 C hr (fun x1 x2 μ hk => hk) (fun x1 x2 x3 μ hk => hk) (fun x1 x2 x3 μ hk => hk)  μ h0
set_option maxRecDepth 10000 in
set_option maxHeartbeats 4000000 in
theorem so_X9_start_0 {p : Program} {l : Launch} {e : Env} {s : State} {m : MethodId} {args : Array Value} {below : List Frame} {meth : Method} {c : Code} {E : EvT} {P : Int64 → MemT → Prop} (C : Cx p s m args meth c E cX9_start 3 RX9) (hr : meth.sig.returnType = (some .long)) (x1 : Int32) (x2 : Int32) (μ : MemT) (h : t_X9_start_0 P x1 x2 μ) : V p l e (rmN 0 0) s m args below meth c E 3 0 0 (MQ below (va_Ql P (wdP E) (eA E s.heap.size)) args s 0 0 (eA E s.heap.size)) 0 [(0, .ref (eAd E 9)), (1, .int x1), (2, .int x2)] [] μ := by
  unfold t_X9_start_0 at h
  refine v_iload_n C 2 rfl rfl dX9_start_0 ?_
  refine v_if_eq C 14 (by decide) dX9_start_1 (fun q3 => ?_) (fun q3 => ?_)
  · replace h := h.1 q3
    refine v_aload_n C 0 rfl rfl dX9_start_14 ?_
    refine gf_X9_72 C dX9_start_15 ?_
    refine v_iload_n C 1 rfl rfl dX9_start_18 ?_
    obtain ⟨b1, h⟩ := h
    refine v_lald C 65 (by decide) rfl b1 dX9_start_19 ?_
    exact v_lret C hr h dX9_start_20
  · replace h := h.2 q3
    refine v_aload_n C 0 rfl rfl dX9_start_4 ?_
    refine gf_X9_78 C dX9_start_5 ?_
    refine v_iload_n C 1 rfl rfl dX9_start_8 ?_
    obtain ⟨b2, h⟩ := h
    refine v_lald C 67 (by decide) rfl b2 dX9_start_9 ?_
    refine v_lneg C dX9_start_10 ?_
    refine v_goto C 20 (by decide) dX9_start_11 ?_
    exact v_lret C hr h dX9_start_20
set_option maxRecDepth 10000 in
set_option maxHeartbeats 4000000 in
theorem so_X9_start {l : Launch} {E : EvT} (x1 : Int32) (x2 : Int32) (μ : MemT) (P : Int64 → MemT → Prop) (h : sp_X9_start x1 x2 μ P) : MCl l E yX9_start cX9_start 3 (some .long) (rmN 0 0) [.ref (eAd E 9), .int x1, .int x2] μ P := by
  refine mc_entryl (by decide +kernel) (Nat.le_of_ble_eq_true rfl) (fun p e s m below meth c C hr => ?_)
  exact so_X9_start_0 C hr x1 x2 μ h
set_option maxRecDepth 10000 in
set_option maxHeartbeats 4000000 in
theorem so_X9_stop_0 {p : Program} {l : Launch} {e : Env} {s : State} {m : MethodId} {args : Array Value} {below : List Frame} {meth : Method} {c : Code} {E : EvT} {P : Int64 → MemT → Prop} (C : Cx p s m args meth c E cX9_stop 3 RX9) (hr : meth.sig.returnType = (some .long)) (x1 : Int32) (x2 : Int32) (μ : MemT) (h : t_X9_stop_0 P x1 x2 μ) : V p l e (rmN 0 0) s m args below meth c E 3 0 0 (MQ below (va_Ql P (wdP E) (eA E s.heap.size)) args s 0 0 (eA E s.heap.size)) 0 [(0, .ref (eAd E 9)), (1, .int x1), (2, .int x2)] [] μ := by
  unfold t_X9_stop_0 at h
  refine v_iload_n C 2 rfl rfl dX9_stop_0 ?_
  refine v_if_eq C 14 (by decide) dX9_stop_1 (fun q3 => ?_) (fun q3 => ?_)
  · replace h := h.1 q3
    refine v_aload_n C 0 rfl rfl dX9_stop_14 ?_
    refine gf_X9_75 C dX9_stop_15 ?_
    refine v_iload_n C 1 rfl rfl dX9_stop_18 ?_
    obtain ⟨b1, h⟩ := h
    refine v_lald C 66 (by decide) rfl b1 dX9_stop_19 ?_
    exact v_lret C hr h dX9_stop_20
  · replace h := h.2 q3
    refine v_aload_n C 0 rfl rfl dX9_stop_4 ?_
    refine gf_X9_81 C dX9_stop_5 ?_
    refine v_iload_n C 1 rfl rfl dX9_stop_8 ?_
    obtain ⟨b2, h⟩ := h
    refine v_lald C 68 (by decide) rfl b2 dX9_stop_9 ?_
    refine v_lneg C dX9_stop_10 ?_
    refine v_goto C 20 (by decide) dX9_stop_11 ?_
    exact v_lret C hr h dX9_stop_20
set_option maxRecDepth 10000 in
set_option maxHeartbeats 4000000 in
theorem so_X9_stop {l : Launch} {E : EvT} (x1 : Int32) (x2 : Int32) (μ : MemT) (P : Int64 → MemT → Prop) (h : sp_X9_stop x1 x2 μ P) : MCl l E yX9_stop cX9_stop 3 (some .long) (rmN 0 0) [.ref (eAd E 9), .int x1, .int x2] μ P := by
  refine mc_entryl (by decide +kernel) (Nat.le_of_ble_eq_true rfl) (fun p e s m below meth c C hr => ?_)
  exact so_X9_stop_0 C hr x1 x2 μ h
set_option maxRecDepth 10000 in
set_option maxHeartbeats 4000000 in
theorem so_X9_gapBefore_67 {p : Program} {l : Launch} {e : Env} {s : State} {m : MethodId} {args : Array Value} {below : List Frame} {meth : Method} {c : Code} {E : EvT} {P : Int64 → MemT → Prop} (C : Cx p s m args meth c E cX9_gapBefore 7 RX9) (hr : meth.sig.returnType = (some .long)) {K8 : Int32 → Int32 → Int32 → Int64 → Int32 → MemT → Prop} (hK8 : ∀ (x1 : Int32) (x2 : Int32) (x3 : Int32) (x4 : Int64) (x6 : Int32) (μ : MemT), K8 x1 x2 x3 x4 x6 μ → V p l e (rmN 1 22) s m args below meth c E 7 0 0 (MQ below (va_Ql P (wdP E) (eA E s.heap.size)) args s 0 0 (eA E s.heap.size)) 8 [(0, .ref (eAd E 9)), (1, .int x1), (2, .int x2), (3, .int x3), (4, .long x4), (6, .int x6)] [] μ) (x1 : Int32) (x2 : Int32) (x3 : Int32) (x4 : Int64) (x6 : Int32) (μ : MemT) (h : t_X9_gapBefore_67 K8 P x1 x2 x3 x4 x6 μ) : V p l e (rmN 1 22) s m args below meth c E 7 0 0 (MQ below (va_Ql P (wdP E) (eA E s.heap.size)) args s 0 0 (eA E s.heap.size)) 67 [(0, .ref (eAd E 9)), (1, .int x1), (2, .int x2), (3, .int x3), (4, .long x4), (6, .int x6)] [] μ := by
  unfold t_X9_gapBefore_67 at h
  refine v_aload_n C 0 rfl rfl dX9_gapBefore_67 ?_
  refine v_iload C 5 rfl dX9_gapBefore_68 ?_
  refine v_iload_n C 2 rfl rfl dX9_gapBefore_70 ?_
  obtain ⟨P1, hs, h⟩ := h
  refine v_callVl C 9 [.int x6, .int x2] (by decide) rfl rfl rfl (so_X9_stop x6 x2 μ P1 hs) gw_X9_173 rfl rfl dd_X9_stop ⟨by decide, by decide⟩ rfl rfl (Nat.le_of_ble_eq_true rfl) ⟨by decide, by decide⟩ dX9_gapBefore_71 (fun r4 μ2 q3 => ?_)
  replace h := h r4 μ2 q3
  refine v_goto C 79 (by decide) dX9_gapBefore_74 ?_
  refine v_lstore C [(4, .long r4), (0, .ref (eAd E 9)), (1, .int x1), (2, .int x2), (3, .int x3), (6, .int x6)] (by decide) rfl dX9_gapBefore_79 ?_
  refine v_iconst (v := (1 : Int32)) C dX9_gapBefore_81 (by decide) ?_
  refine v_istore_n C [(3, .int (1 : Int32)), (4, .long r4), (0, .ref (eAd E 9)), (1, .int x1), (2, .int x2), (6, .int x6)] rfl (by decide) rfl dX9_gapBefore_82 ?_
  refine v_iinc (v := (x6 + 1)) C 5 [(6, .int (x6 + 1)), (3, .int (1 : Int32)), (4, .long r4), (0, .ref (eAd E 9)), (1, .int x1), (2, .int x2)] rfl rfl (by decide) rfl dX9_gapBefore_83 ?_
  refine v_goto C 8 (by decide) dX9_gapBefore_86 ?_
  refine v_sub C [3, 4, 5, 1, 2, 0] rfl ?_
  exact hK8 _ _ _ _ _ _ h
set_option maxRecDepth 10000 in
set_option maxHeartbeats 4000000 in
theorem so_X9_gapBefore_8 {p : Program} {l : Launch} {e : Env} {s : State} {m : MethodId} {args : Array Value} {below : List Frame} {meth : Method} {c : Code} {E : EvT} {P : Int64 → MemT → Prop} (C : Cx p s m args meth c E cX9_gapBefore 7 RX9) (hr : meth.sig.returnType = (some .long)) {K8 : Int32 → Int32 → Int32 → Int64 → Int32 → MemT → Prop} (hK8 : ∀ (x1 : Int32) (x2 : Int32) (x3 : Int32) (x4 : Int64) (x6 : Int32) (μ : MemT), K8 x1 x2 x3 x4 x6 μ → V p l e (rmN 1 22) s m args below meth c E 7 0 0 (MQ below (va_Ql P (wdP E) (eA E s.heap.size)) args s 0 0 (eA E s.heap.size)) 8 [(0, .ref (eAd E 9)), (1, .int x1), (2, .int x2), (3, .int x3), (4, .long x4), (6, .int x6)] [] μ) (x1 : Int32) (x2 : Int32) (x3 : Int32) (x4 : Int64) (x6 : Int32) (μ : MemT) (h : t_X9_gapBefore_8 K8 P x1 x2 x3 x4 x6 μ) : V p l e (rmN 1 22) s m args below meth c E 7 0 0 (MQ below (va_Ql P (wdP E) (eA E s.heap.size)) args s 0 0 (eA E s.heap.size)) 8 [(0, .ref (eAd E 9)), (1, .int x1), (2, .int x2), (3, .int x3), (4, .long x4), (6, .int x6)] [] μ := by
  unfold t_X9_gapBefore_8 at h
  refine v_iload C 5 rfl dX9_gapBefore_8 ?_
  refine v_aload_n C 0 rfl rfl dX9_gapBefore_10 ?_
  refine gf_X9_150 C dX9_gapBefore_11 ?_
  refine v_icmp_ge C 89 (by decide) dX9_gapBefore_14 (fun q24 => ?_) (fun q24 => ?_)
  · replace h := h.1 q24
    refine v_iload_n C 3 rfl rfl dX9_gapBefore_89 ?_
    refine v_if_eq C 105 (by decide) dX9_gapBefore_90 (fun q5 => ?_) (fun q5 => ?_)
    · replace h := h.1 q5
      refine v_lconst (v := (0 : Int64)) C dX9_gapBefore_105 (by decide) ?_
      exact v_lret C hr h dX9_gapBefore_106
    · replace h := h.2 q5
      refine v_aload_n C 0 rfl rfl dX9_gapBefore_93 ?_
      refine v_iload_n C 1 rfl rfl dX9_gapBefore_94 ?_
      refine v_iload_n C 2 rfl rfl dX9_gapBefore_95 ?_
      obtain ⟨P1, hs, h⟩ := h
      refine v_callVl C 9 [.int x1, .int x2] (by decide) rfl rfl rfl (so_X9_start x1 x2 μ P1 hs) gw_X9_169 rfl rfl dd_X9_start ⟨by decide, by decide⟩ rfl rfl (Nat.le_of_ble_eq_true rfl) ⟨by decide, by decide⟩ dX9_gapBefore_96 (fun r4 μ2 q3 => ?_)
      replace h := h r4 μ2 q3
      refine v_lload C 4 rfl dX9_gapBefore_99 ?_
      refine v_lsub C dX9_gapBefore_101 ?_
      refine v_goto C 106 (by decide) dX9_gapBefore_102 ?_
      exact v_lret C hr h dX9_gapBefore_106
  · replace h := h.2 q24
    refine v_aload_n C 0 rfl rfl dX9_gapBefore_17 ?_
    refine gf_X9_87 C dX9_gapBefore_18 ?_
    refine v_iload C 5 rfl dX9_gapBefore_21 ?_
    obtain ⟨b6, h⟩ := h
    refine v_iald C 70 (by decide) rfl b6 dX9_gapBefore_23 ?_
    refine v_aload_n C 0 rfl rfl dX9_gapBefore_24 ?_
    refine gf_X9_87 C dX9_gapBefore_25 ?_
    refine v_iload_n C 1 rfl rfl dX9_gapBefore_28 ?_
    obtain ⟨b7, h⟩ := h
    refine v_iald C 70 (by decide) rfl b7 dX9_gapBefore_29 ?_
    refine v_icmp_ne C 83 (by decide) dX9_gapBefore_30 (fun q23 => ?_) (fun q23 => ?_)
    · replace h := h.1 q23
      refine v_iinc (v := (x6 + 1)) C 5 [(6, .int (x6 + 1)), (0, .ref (eAd E 9)), (1, .int x1), (2, .int x2), (3, .int x3), (4, .long x4)] rfl rfl (by decide) rfl dX9_gapBefore_83 ?_
      refine v_goto C 8 (by decide) dX9_gapBefore_86 ?_
      refine v_sub C [1, 2, 3, 4, 5, 0] rfl ?_
      exact hK8 _ _ _ _ _ _ h
    · replace h := h.2 q23
      refine v_aload_n C 0 rfl rfl dX9_gapBefore_33 ?_
      refine v_iload C 5 rfl dX9_gapBefore_34 ?_
      refine v_iload_n C 2 rfl rfl dX9_gapBefore_36 ?_
      obtain ⟨P8, hs, h⟩ := h
      refine v_callVl C 9 [.int x6, .int x2] (by decide) rfl rfl rfl (so_X9_start x6 x2 μ P8 hs) gw_X9_169 rfl rfl dd_X9_start ⟨by decide, by decide⟩ rfl rfl (Nat.le_of_ble_eq_true rfl) ⟨by decide, by decide⟩ dX9_gapBefore_37 (fun r11 μ9 q10 => ?_)
      replace h := h r11 μ9 q10
      refine v_aload_n C 0 rfl rfl dX9_gapBefore_40 ?_
      refine v_iload_n C 1 rfl rfl dX9_gapBefore_41 ?_
      refine v_iload_n C 2 rfl rfl dX9_gapBefore_42 ?_
      obtain ⟨P12, hs, h⟩ := h
      refine v_callVl C 9 [.int x1, .int x2] (by decide) rfl rfl rfl (so_X9_start x1 x2 μ9 P12 hs) gw_X9_169 rfl rfl dd_X9_start ⟨by decide, by decide⟩ rfl rfl (Nat.le_of_ble_eq_true rfl) ⟨by decide, by decide⟩ dX9_gapBefore_43 (fun r15 μ13 q14 => ?_)
      replace h := h r15 μ13 q14
      refine v_lcmp_ge C 83 (by decide) dX9_gapBefore_46 dX9_gapBefore_47 (fun q22 => ?_) (fun q22 => ?_)
      · replace h := h.1 q22
        refine v_iinc (v := (x6 + 1)) C 5 [(6, .int (x6 + 1)), (0, .ref (eAd E 9)), (1, .int x1), (2, .int x2), (3, .int x3), (4, .long x4)] rfl rfl (by decide) rfl dX9_gapBefore_83 ?_
        refine v_goto C 8 (by decide) dX9_gapBefore_86 ?_
        refine v_sub C [1, 2, 3, 4, 5, 0] rfl ?_
        exact hK8 _ _ _ _ _ _ h
      · replace h := h.2 q22
        refine v_iload_n C 3 rfl rfl dX9_gapBefore_50 ?_
        refine v_if_eq C 67 (by decide) dX9_gapBefore_51 (fun q21 => ?_) (fun q21 => ?_)
        · replace h := h.1 q21
          exact so_X9_gapBefore_67 C hr hK8 _ _ _ _ _ _ h
        · replace h := h.2 q21
          refine v_aload_n C 0 rfl rfl dX9_gapBefore_54 ?_
          refine v_iload C 5 rfl dX9_gapBefore_55 ?_
          refine v_iload_n C 2 rfl rfl dX9_gapBefore_57 ?_
          obtain ⟨P16, hs, h⟩ := h
          refine v_callVl C 9 [.int x6, .int x2] (by decide) rfl rfl rfl (so_X9_stop x6 x2 μ13 P16 hs) gw_X9_173 rfl rfl dd_X9_stop ⟨by decide, by decide⟩ rfl rfl (Nat.le_of_ble_eq_true rfl) ⟨by decide, by decide⟩ dX9_gapBefore_58 (fun r19 μ17 q18 => ?_)
          replace h := h r19 μ17 q18
          refine v_lload C 4 rfl dX9_gapBefore_61 ?_
          refine v_lcmp_le C 77 (by decide) dX9_gapBefore_63 dX9_gapBefore_64 (fun q20 => ?_) (fun q20 => ?_)
          · replace h := h.1 q20
            refine v_lload C 4 rfl dX9_gapBefore_77 ?_
            refine v_lstore C [(4, .long x4), (0, .ref (eAd E 9)), (1, .int x1), (2, .int x2), (3, .int x3), (6, .int x6)] (by decide) rfl dX9_gapBefore_79 ?_
            refine v_iconst (v := (1 : Int32)) C dX9_gapBefore_81 (by decide) ?_
            refine v_istore_n C [(3, .int (1 : Int32)), (4, .long x4), (0, .ref (eAd E 9)), (1, .int x1), (2, .int x2), (6, .int x6)] rfl (by decide) rfl dX9_gapBefore_82 ?_
            refine v_iinc (v := (x6 + 1)) C 5 [(6, .int (x6 + 1)), (3, .int (1 : Int32)), (4, .long x4), (0, .ref (eAd E 9)), (1, .int x1), (2, .int x2)] rfl rfl (by decide) rfl dX9_gapBefore_83 ?_
            refine v_goto C 8 (by decide) dX9_gapBefore_86 ?_
            refine v_sub C [3, 4, 5, 1, 2, 0] rfl ?_
            exact hK8 _ _ _ _ _ _ h
          · replace h := h.2 q20
            exact so_X9_gapBefore_67 C hr hK8 _ _ _ _ _ _ h
set_option maxRecDepth 10000 in
set_option maxHeartbeats 4000000 in
theorem so_X9_gapBefore_0 {p : Program} {l : Launch} {e : Env} {s : State} {m : MethodId} {args : Array Value} {below : List Frame} {meth : Method} {c : Code} {E : EvT} {P : Int64 → MemT → Prop} (C : Cx p s m args meth c E cX9_gapBefore 7 RX9) (hr : meth.sig.returnType = (some .long)) {K8 : Int32 → Int32 → Int32 → Int64 → Int32 → MemT → Prop} (hK8 : ∀ (x1 : Int32) (x2 : Int32) (x3 : Int32) (x4 : Int64) (x6 : Int32) (μ : MemT), K8 x1 x2 x3 x4 x6 μ → V p l e (rmN 1 22) s m args below meth c E 7 0 0 (MQ below (va_Ql P (wdP E) (eA E s.heap.size)) args s 0 0 (eA E s.heap.size)) 8 [(0, .ref (eAd E 9)), (1, .int x1), (2, .int x2), (3, .int x3), (4, .long x4), (6, .int x6)] [] μ) (x1 : Int32) (x2 : Int32) (μ : MemT) (h : t_X9_gapBefore_0 K8 P x1 x2 μ) : V p l e (rmN 1 22) s m args below meth c E 7 0 0 (MQ below (va_Ql P (wdP E) (eA E s.heap.size)) args s 0 0 (eA E s.heap.size)) 0 [(0, .ref (eAd E 9)), (1, .int x1), (2, .int x2)] [] μ := by
  unfold t_X9_gapBefore_0 at h
  refine v_iconst (v := (0 : Int32)) C dX9_gapBefore_0 (by decide) ?_
  refine v_istore_n C [(3, .int (0 : Int32)), (0, .ref (eAd E 9)), (1, .int x1), (2, .int x2)] rfl (by decide) rfl dX9_gapBefore_1 ?_
  refine v_lconst (v := (0 : Int64)) C dX9_gapBefore_2 (by decide) ?_
  refine v_lstore C [(4, .long (0 : Int64)), (3, .int (0 : Int32)), (0, .ref (eAd E 9)), (1, .int x1), (2, .int x2)] (by decide) rfl dX9_gapBefore_3 ?_
  refine v_iconst (v := (0 : Int32)) C dX9_gapBefore_5 (by decide) ?_
  refine v_istore C [(6, .int (0 : Int32)), (4, .long (0 : Int64)), (3, .int (0 : Int32)), (0, .ref (eAd E 9)), (1, .int x1), (2, .int x2)] (by decide) rfl dX9_gapBefore_6 ?_
  refine v_sub C [3, 4, 5, 2, 1, 0] rfl ?_
  exact hK8 _ _ _ _ _ _ h
set_option maxRecDepth 10000 in
set_option maxHeartbeats 4000000 in
theorem so_X9_gapBefore {l : Launch} {E : EvT} (x1 : Int32) (x2 : Int32) (μ : MemT) (P : Int64 → MemT → Prop) (h : sp_X9_gapBefore x1 x2 μ P) : MCl l E yX9_gapBefore cX9_gapBefore 7 (some .long) (rmN 1 22) [.ref (eAd E 9), .int x1, .int x2] μ P := by
  refine mc_entryl (by decide +kernel) (Nat.le_of_ble_eq_true rfl) (fun p e s m below meth c C hr => ?_)
  have h0 := h (fun x1_ x2_ x3_ x4_ x6_ μ => V p l e (rmN 1 22) s m ([.ref (eAd E 9), .int x1, .int x2] : List Value).toArray below meth c E 7 0 0 (MQ below (va_Ql P (wdP E) (eA E s.heap.size)) ([.ref (eAd E 9), .int x1, .int x2] : List Value).toArray s 0 0 (eA E s.heap.size)) 8 [(0, .ref (eAd E 9)), (1, .int x1_), (2, .int x2_), (3, .int x3_), (4, .long x4_), (6, .int x6_)] [] μ) (fun x1 x2 x3 x4 x6 μ ht => so_X9_gapBefore_8 C hr (fun x1 x2 x3 x4 x6 μ hk => hk) x1 x2 x3 x4 x6 μ ht) 
  exact so_X9_gapBefore_0 C hr (fun x1 x2 x3 x4 x6 μ hk => hk) x1 x2 μ h0
set_option maxRecDepth 10000 in
set_option maxHeartbeats 4000000 in
theorem so_X9_hasGap_81 {p : Program} {l : Launch} {e : Env} {s : State} {m : MethodId} {args : Array Value} {below : List Frame} {meth : Method} {c : Code} {E : EvT} {P : Int32 → MemT → Prop} (C : Cx p s m args meth c E cX9_hasGap 12 RX9) (hr : meth.sig.returnType = (some .boolean)) {K11 : Int32 → Int32 → Int64 → Int64 → Int32 → Int32 → MemT → Prop} (hK11 : ∀ (x1 : Int32) (x2 : Int32) (x3 : Int64) (x5 : Int64) (x7 : Int32) (x8 : Int32) (μ : MemT), K11 x1 x2 x3 x5 x7 x8 μ → V p l e (rmN 2 48) s m args below meth c E 12 0 0 (MQ below (va_Qi P (wdP E) (eA E s.heap.size)) args s 0 0 (eA E s.heap.size)) 11 [(0, .ref (eAd E 9)), (1, .int x1), (2, .int x2), (3, .long x3), (5, .long x5), (7, .int x7), (8, .int x8)] [] μ) (x1 : Int32) (x2 : Int32) (x3 : Int64) (x5 : Int64) (x7 : Int32) (x8 : Int32) (x9 : Int64) (y0 : Int32) (μ : MemT) (h : t_X9_hasGap_81 K11 P x1 x2 x3 x5 x7 x8 x9 y0 μ) : V p l e (rmN 2 48) s m args below meth c E 12 0 0 (MQ below (va_Qi P (wdP E) (eA E s.heap.size)) args s 0 0 (eA E s.heap.size)) 81 [(0, .ref (eAd E 9)), (1, .int x1), (2, .int x2), (3, .long x3), (5, .long x5), (7, .int x7), (8, .int x8), (9, .long x9)] [.int y0] μ := by
  unfold t_X9_hasGap_81 at h
  refine v_istore C [(11, .int y0), (0, .ref (eAd E 9)), (1, .int x1), (2, .int x2), (3, .long x3), (5, .long x5), (7, .int x7), (8, .int x8), (9, .long x9)] (by decide) rfl dX9_hasGap_81 ?_
  refine v_iload C 0 rfl dX9_hasGap_83 ?_
  refine v_if_eq C 106 (by decide) dX9_hasGap_85 (fun q6 => ?_) (fun q6 => ?_)
  · replace h := h.1 q6
    refine v_iinc (v := (x8 + 1)) C 7 [(8, .int (x8 + 1)), (11, .int y0), (0, .ref (eAd E 9)), (1, .int x1), (2, .int x2), (3, .long x3), (5, .long x5), (7, .int x7), (9, .long x9)] rfl rfl (by decide) rfl dX9_hasGap_106 ?_
    refine v_goto C 11 (by decide) dX9_hasGap_109 ?_
    refine v_sub C [2, 3, 4, 5, 6, 7, 0] rfl ?_
    exact hK11 _ _ _ _ _ _ _ h
  · replace h := h.2 q6
    refine v_lload C 8 rfl dX9_hasGap_88 ?_
    refine v_lstore C [(5, .long x9), (11, .int y0), (0, .ref (eAd E 9)), (1, .int x1), (2, .int x2), (3, .long x3), (7, .int x7), (8, .int x8), (9, .long x9)] (by decide) rfl dX9_hasGap_90 ?_
    refine v_aload_n C 2 rfl rfl dX9_hasGap_92 ?_
    refine v_aload_n C 2 rfl rfl dX9_hasGap_93 ?_
    refine v_iload C 7 rfl dX9_hasGap_94 ?_
    refine v_iload_n C 4 rfl rfl dX9_hasGap_96 ?_
    obtain ⟨P1, hs, h⟩ := h
    refine v_callVl C 9 [.int x8, .int x2] (by decide) rfl rfl rfl (so_X9_start x8 x2 μ P1 hs) gw_X9_169 rfl rfl dd_X9_start ⟨by decide, by decide⟩ rfl rfl (Nat.le_of_ble_eq_true rfl) ⟨by decide, by decide⟩ dX9_hasGap_97 (fun r4 μ2 q3 => ?_)
    replace h := h r4 μ2 q3
    refine pf_X9_179 C dX9_hasGap_100 ?_
    refine v_nmM (fun μ5 e_μ5 => ?_)
    replace h := h μ5 e_μ5
    refine v_iconst (v := (1 : Int32)) C dX9_hasGap_103 (by decide) ?_
    refine v_istore C [(7, .int (1 : Int32)), (5, .long x9), (11, .int y0), (0, .ref (eAd E 9)), (1, .int x1), (2, .int x2), (3, .long x3), (8, .int x8), (9, .long x9)] (by decide) rfl dX9_hasGap_104 ?_
    refine v_iinc (v := (x8 + 1)) C 7 [(8, .int (x8 + 1)), (7, .int (1 : Int32)), (5, .long x9), (11, .int y0), (0, .ref (eAd E 9)), (1, .int x1), (2, .int x2), (3, .long x3), (9, .long x9)] rfl rfl (by decide) rfl dX9_hasGap_106 ?_
    refine v_goto C 11 (by decide) dX9_hasGap_109 ?_
    refine v_sub C [4, 5, 6, 7, 2, 1, 0] rfl ?_
    exact hK11 _ _ _ _ _ _ _ h
set_option maxRecDepth 10000 in
set_option maxHeartbeats 4000000 in
theorem so_X9_hasGap_80 {p : Program} {l : Launch} {e : Env} {s : State} {m : MethodId} {args : Array Value} {below : List Frame} {meth : Method} {c : Code} {E : EvT} {P : Int32 → MemT → Prop} (C : Cx p s m args meth c E cX9_hasGap 12 RX9) (hr : meth.sig.returnType = (some .boolean)) {K11 : Int32 → Int32 → Int64 → Int64 → Int32 → Int32 → MemT → Prop} (hK11 : ∀ (x1 : Int32) (x2 : Int32) (x3 : Int64) (x5 : Int64) (x7 : Int32) (x8 : Int32) (μ : MemT), K11 x1 x2 x3 x5 x7 x8 μ → V p l e (rmN 2 48) s m args below meth c E 12 0 0 (MQ below (va_Qi P (wdP E) (eA E s.heap.size)) args s 0 0 (eA E s.heap.size)) 11 [(0, .ref (eAd E 9)), (1, .int x1), (2, .int x2), (3, .long x3), (5, .long x5), (7, .int x7), (8, .int x8)] [] μ) (x1 : Int32) (x2 : Int32) (x3 : Int64) (x5 : Int64) (x7 : Int32) (x8 : Int32) (x9 : Int64) (μ : MemT) (h : t_X9_hasGap_80 K11 P x1 x2 x3 x5 x7 x8 x9 μ) : V p l e (rmN 2 48) s m args below meth c E 12 0 0 (MQ below (va_Qi P (wdP E) (eA E s.heap.size)) args s 0 0 (eA E s.heap.size)) 80 [(0, .ref (eAd E 9)), (1, .int x1), (2, .int x2), (3, .long x3), (5, .long x5), (7, .int x7), (8, .int x8), (9, .long x9)] [] μ := by
  unfold t_X9_hasGap_80 at h
  refine v_iconst (v := (0 : Int32)) C dX9_hasGap_80 (by decide) ?_
  exact so_X9_hasGap_81 C hr hK11 _ _ _ _ _ _ _ _ _ h
set_option maxRecDepth 10000 in
set_option maxHeartbeats 4000000 in
theorem so_X9_hasGap_76 {p : Program} {l : Launch} {e : Env} {s : State} {m : MethodId} {args : Array Value} {below : List Frame} {meth : Method} {c : Code} {E : EvT} {P : Int32 → MemT → Prop} (C : Cx p s m args meth c E cX9_hasGap 12 RX9) (hr : meth.sig.returnType = (some .boolean)) {K11 : Int32 → Int32 → Int64 → Int64 → Int32 → Int32 → MemT → Prop} (hK11 : ∀ (x1 : Int32) (x2 : Int32) (x3 : Int64) (x5 : Int64) (x7 : Int32) (x8 : Int32) (μ : MemT), K11 x1 x2 x3 x5 x7 x8 μ → V p l e (rmN 2 48) s m args below meth c E 12 0 0 (MQ below (va_Qi P (wdP E) (eA E s.heap.size)) args s 0 0 (eA E s.heap.size)) 11 [(0, .ref (eAd E 9)), (1, .int x1), (2, .int x2), (3, .long x3), (5, .long x5), (7, .int x7), (8, .int x8)] [] μ) (x1 : Int32) (x2 : Int32) (x3 : Int64) (x5 : Int64) (x7 : Int32) (x8 : Int32) (x9 : Int64) (μ : MemT) (h : t_X9_hasGap_76 K11 P x1 x2 x3 x5 x7 x8 x9 μ) : V p l e (rmN 2 48) s m args below meth c E 12 0 0 (MQ below (va_Qi P (wdP E) (eA E s.heap.size)) args s 0 0 (eA E s.heap.size)) 76 [(0, .ref (eAd E 9)), (1, .int x1), (2, .int x2), (3, .long x3), (5, .long x5), (7, .int x7), (8, .int x8), (9, .long x9)] [] μ := by
  unfold t_X9_hasGap_76 at h
  refine v_iconst (v := (1 : Int32)) C dX9_hasGap_76 (by decide) ?_
  refine v_goto C 81 (by decide) dX9_hasGap_77 ?_
  exact so_X9_hasGap_81 C hr hK11 _ _ _ _ _ _ _ _ _ h
set_option maxRecDepth 10000 in
set_option maxHeartbeats 4000000 in
theorem so_X9_hasGap_11 {p : Program} {l : Launch} {e : Env} {s : State} {m : MethodId} {args : Array Value} {below : List Frame} {meth : Method} {c : Code} {E : EvT} {P : Int32 → MemT → Prop} (C : Cx p s m args meth c E cX9_hasGap 12 RX9) (hr : meth.sig.returnType = (some .boolean)) {K11 : Int32 → Int32 → Int64 → Int64 → Int32 → Int32 → MemT → Prop} (hK11 : ∀ (x1 : Int32) (x2 : Int32) (x3 : Int64) (x5 : Int64) (x7 : Int32) (x8 : Int32) (μ : MemT), K11 x1 x2 x3 x5 x7 x8 μ → V p l e (rmN 2 48) s m args below meth c E 12 0 0 (MQ below (va_Qi P (wdP E) (eA E s.heap.size)) args s 0 0 (eA E s.heap.size)) 11 [(0, .ref (eAd E 9)), (1, .int x1), (2, .int x2), (3, .long x3), (5, .long x5), (7, .int x7), (8, .int x8)] [] μ) (x1 : Int32) (x2 : Int32) (x3 : Int64) (x5 : Int64) (x7 : Int32) (x8 : Int32) (μ : MemT) (h : t_X9_hasGap_11 K11 P x1 x2 x3 x5 x7 x8 μ) : V p l e (rmN 2 48) s m args below meth c E 12 0 0 (MQ below (va_Qi P (wdP E) (eA E s.heap.size)) args s 0 0 (eA E s.heap.size)) 11 [(0, .ref (eAd E 9)), (1, .int x1), (2, .int x2), (3, .long x3), (5, .long x5), (7, .int x7), (8, .int x8)] [] μ := by
  unfold t_X9_hasGap_11 at h
  refine v_iload C 6 rfl dX9_hasGap_11 ?_
  refine v_aload_n C 0 rfl rfl dX9_hasGap_13 ?_
  refine gf_X9_150 C dX9_hasGap_14 ?_
  refine v_icmp_ge C 112 (by decide) dX9_hasGap_17 (fun q16 => ?_) (fun q16 => ?_)
  · replace h := h.1 q16
    refine v_iload C 5 rfl dX9_hasGap_112 ?_
    obtain ⟨b1, h⟩ := h
    exact v_zret C hr (nb01 b1) h dX9_hasGap_114
  · replace h := h.2 q16
    refine v_aload_n C 0 rfl rfl dX9_hasGap_20 ?_
    refine gf_X9_87 C dX9_hasGap_21 ?_
    refine v_iload C 6 rfl dX9_hasGap_24 ?_
    obtain ⟨b2, h⟩ := h
    refine v_iald C 70 (by decide) rfl b2 dX9_hasGap_26 ?_
    refine v_iload_n C 1 rfl rfl dX9_hasGap_27 ?_
    refine v_icmp_ne C 106 (by decide) dX9_hasGap_28 (fun q15 => ?_) (fun q15 => ?_)
    · replace h := h.1 q15
      refine v_iinc (v := (x8 + 1)) C 6 [(8, .int (x8 + 1)), (0, .ref (eAd E 9)), (1, .int x1), (2, .int x2), (3, .long x3), (5, .long x5), (7, .int x7)] rfl rfl (by decide) rfl dX9_hasGap_106 ?_
      refine v_goto C 11 (by decide) dX9_hasGap_109 ?_
      refine v_sub C [1, 2, 3, 4, 5, 6, 0] rfl ?_
      exact hK11 _ _ _ _ _ _ _ h
    · replace h := h.2 q15
      refine v_aload_n C 0 rfl rfl dX9_hasGap_31 ?_
      refine v_iload C 6 rfl dX9_hasGap_32 ?_
      refine v_iload_n C 2 rfl rfl dX9_hasGap_34 ?_
      obtain ⟨P3, hs, h⟩ := h
      refine v_callVl C 9 [.int x8, .int x2] (by decide) rfl rfl rfl (so_X9_gapBefore x8 x2 μ P3 hs) gw_X9_176 rfl rfl dd_X9_gapBefore ⟨by decide, by decide⟩ rfl rfl (Nat.le_of_ble_eq_true rfl) ⟨by decide, by decide⟩ dX9_hasGap_35 (fun r6 μ4 q5 => ?_)
      replace h := h r6 μ4 q5
      refine v_lstore C [(9, .long r6), (0, .ref (eAd E 9)), (1, .int x1), (2, .int x2), (3, .long x3), (5, .long x5), (7, .int x7), (8, .int x8)] (by decide) rfl dX9_hasGap_38 ?_
      refine v_lload C 0 rfl dX9_hasGap_40 ?_
      refine v_lload C 5 rfl dX9_hasGap_42 ?_
      refine v_lcmp_gt C 76 (by decide) dX9_hasGap_44 dX9_hasGap_45 (fun q14 => ?_) (fun q14 => ?_)
      · replace h := h.1 q14
        refine v_sub C [1, 2, 3, 4, 5, 6, 7, 0] rfl ?_
        exact so_X9_hasGap_76 C hr hK11 _ _ _ _ _ _ _ _ h
      · replace h := h.2 q14
        refine v_iload C 6 rfl dX9_hasGap_48 ?_
        refine v_if_eq C 80 (by decide) dX9_hasGap_50 (fun q13 => ?_) (fun q13 => ?_)
        · replace h := h.1 q13
          refine v_sub C [1, 2, 3, 4, 5, 6, 7, 0] rfl ?_
          exact so_X9_hasGap_80 C hr hK11 _ _ _ _ _ _ _ _ h
        · replace h := h.2 q13
          refine v_lload C 0 rfl dX9_hasGap_53 ?_
          refine v_lload C 5 rfl dX9_hasGap_55 ?_
          refine v_lcmp_ne C 80 (by decide) dX9_hasGap_57 dX9_hasGap_58 (fun q12 => ?_) (fun q12 => ?_)
          · replace h := h.1 q12
            refine v_sub C [1, 2, 3, 4, 5, 6, 7, 0] rfl ?_
            exact so_X9_hasGap_80 C hr hK11 _ _ _ _ _ _ _ _ h
          · replace h := h.2 q12
            refine v_aload_n C 1 rfl rfl dX9_hasGap_61 ?_
            refine v_iload C 7 rfl dX9_hasGap_62 ?_
            refine v_iload_n C 3 rfl rfl dX9_hasGap_64 ?_
            obtain ⟨P7, hs, h⟩ := h
            refine v_callVl C 9 [.int x8, .int x2] (by decide) rfl rfl rfl (so_X9_start x8 x2 μ4 P7 hs) gw_X9_169 rfl rfl dd_X9_start ⟨by decide, by decide⟩ rfl rfl (Nat.le_of_ble_eq_true rfl) ⟨by decide, by decide⟩ dX9_hasGap_65 (fun r10 μ8 q9 => ?_)
            replace h := h r10 μ8 q9
            refine v_aload_n C 1 rfl rfl dX9_hasGap_68 ?_
            refine gf_X9_179 C dX9_hasGap_69 ?_
            refine v_lcmp_ge C 80 (by decide) dX9_hasGap_72 dX9_hasGap_73 (fun q11 => ?_) (fun q11 => ?_)
            · replace h := h.1 q11
              refine v_sub C [1, 2, 3, 4, 5, 6, 7, 0] rfl ?_
              exact so_X9_hasGap_80 C hr hK11 _ _ _ _ _ _ _ _ h
            · replace h := h.2 q11
              refine v_sub C [1, 2, 3, 4, 5, 6, 7, 0] rfl ?_
              exact so_X9_hasGap_76 C hr hK11 _ _ _ _ _ _ _ _ h
set_option maxRecDepth 10000 in
set_option maxHeartbeats 4000000 in
theorem so_X9_hasGap_0 {p : Program} {l : Launch} {e : Env} {s : State} {m : MethodId} {args : Array Value} {below : List Frame} {meth : Method} {c : Code} {E : EvT} {P : Int32 → MemT → Prop} (C : Cx p s m args meth c E cX9_hasGap 12 RX9) (hr : meth.sig.returnType = (some .boolean)) {K11 : Int32 → Int32 → Int64 → Int64 → Int32 → Int32 → MemT → Prop} (hK11 : ∀ (x1 : Int32) (x2 : Int32) (x3 : Int64) (x5 : Int64) (x7 : Int32) (x8 : Int32) (μ : MemT), K11 x1 x2 x3 x5 x7 x8 μ → V p l e (rmN 2 48) s m args below meth c E 12 0 0 (MQ below (va_Qi P (wdP E) (eA E s.heap.size)) args s 0 0 (eA E s.heap.size)) 11 [(0, .ref (eAd E 9)), (1, .int x1), (2, .int x2), (3, .long x3), (5, .long x5), (7, .int x7), (8, .int x8)] [] μ) (x1 : Int32) (x2 : Int32) (x3 : Int64) (μ : MemT) (h : t_X9_hasGap_0 K11 P x1 x2 x3 μ) : V p l e (rmN 2 48) s m args below meth c E 12 0 0 (MQ below (va_Qi P (wdP E) (eA E s.heap.size)) args s 0 0 (eA E s.heap.size)) 0 [(0, .ref (eAd E 9)), (1, .int x1), (2, .int x2), (3, .long x3)] [] μ := by
  unfold t_X9_hasGap_0 at h
  refine v_lload_n C 3 rfl rfl dX9_hasGap_0 ?_
  refine v_lconst (v := (1 : Int64)) C dX9_hasGap_1 (by decide) ?_
  refine v_lsub C dX9_hasGap_2 ?_
  refine v_lstore C [(5, .long (x3 - (1 : Int64))), (0, .ref (eAd E 9)), (1, .int x1), (2, .int x2), (3, .long x3)] (by decide) rfl dX9_hasGap_3 ?_
  refine v_iconst (v := (0 : Int32)) C dX9_hasGap_5 (by decide) ?_
  refine v_istore C [(7, .int (0 : Int32)), (5, .long (x3 - (1 : Int64))), (0, .ref (eAd E 9)), (1, .int x1), (2, .int x2), (3, .long x3)] (by decide) rfl dX9_hasGap_6 ?_
  refine v_iconst (v := (0 : Int32)) C dX9_hasGap_8 (by decide) ?_
  refine v_istore C [(8, .int (0 : Int32)), (7, .int (0 : Int32)), (5, .long (x3 - (1 : Int64))), (0, .ref (eAd E 9)), (1, .int x1), (2, .int x2), (3, .long x3)] (by decide) rfl dX9_hasGap_9 ?_
  refine v_sub C [3, 4, 5, 6, 2, 1, 0] rfl ?_
  exact hK11 _ _ _ _ _ _ _ h
set_option maxRecDepth 10000 in
set_option maxHeartbeats 4000000 in
theorem so_X9_hasGap {l : Launch} {E : EvT} (x1 : Int32) (x2 : Int32) (x3 : Int64) (μ : MemT) (P : Int32 → MemT → Prop) (h : sp_X9_hasGap x1 x2 x3 μ P) : MCi l E yX9_hasGap cX9_hasGap 12 (some .boolean) (rmN 2 48) [.ref (eAd E 9), .int x1, .int x2, .long x3] μ P := by
  refine mc_entryi (by decide +kernel) (Nat.le_of_ble_eq_true rfl) (fun p e s m below meth c C hr => ?_)
  have h0 := h (fun x1_ x2_ x3_ x5_ x7_ x8_ μ => V p l e (rmN 2 48) s m ([.ref (eAd E 9), .int x1, .int x2, .long x3] : List Value).toArray below meth c E 12 0 0 (MQ below (va_Qi P (wdP E) (eA E s.heap.size)) ([.ref (eAd E 9), .int x1, .int x2, .long x3] : List Value).toArray s 0 0 (eA E s.heap.size)) 11 [(0, .ref (eAd E 9)), (1, .int x1_), (2, .int x2_), (3, .long x3_), (5, .long x5_), (7, .int x7_), (8, .int x8_)] [] μ) (fun x1 x2 x3 x5 x7 x8 μ ht => so_X9_hasGap_11 C hr (fun x1 x2 x3 x5 x7 x8 μ hk => hk) x1 x2 x3 x5 x7 x8 μ ht) 
  exact so_X9_hasGap_0 C hr (fun x1 x2 x3 x5 x7 x8 μ hk => hk) x1 x2 x3 μ h0
set_option maxRecDepth 10000 in
set_option maxHeartbeats 4000000 in
theorem so_X9_findGroups_287 {p : Program} {l : Launch} {e : Env} {s : State} {m : MethodId} {args : Array Value} {below : List Frame} {meth : Method} {c : Code} {E : EvT} {P : MemT → Prop} (C : Cx p s m args meth c E cX9_findGroups 8 RX9) (hr : meth.sig.returnType = none) {K7 : Int32 → MemT → Prop} (hK7 : ∀ (x1 : Int32) (μ : MemT), K7 x1 μ → V p l e (rmN 3 79) s m args below meth c E 8 0 0 (MQ below (va_Qv P (wdP E) (eA E s.heap.size)) args s 0 0 (eA E s.heap.size)) 7 [(0, .ref (eAd E 9)), (1, .int x1)] [] μ) {K23 : Int32 → Int64 → Int32 → Int32 → MemT → Prop} (hK23 : ∀ (x1 : Int32) (x2 : Int64) (x4 : Int32) (x5 : Int32) (μ : MemT), K23 x1 x2 x4 x5 μ → V p l e (rmN 3 79) s m args below meth c E 8 0 0 (MQ below (va_Qv P (wdP E) (eA E s.heap.size)) args s 0 0 (eA E s.heap.size)) 23 [(0, .ref (eAd E 9)), (1, .int x1), (2, .long x2), (4, .int x4), (5, .int x5)] [] μ) {K147 : Int32 → Int64 → Int32 → Int32 → Int32 → Int32 → MemT → Prop} (hK147 : ∀ (x1 : Int32) (x2 : Int64) (x4 : Int32) (x5 : Int32) (x6 : Int32) (x7 : Int32) (μ : MemT), K147 x1 x2 x4 x5 x6 x7 μ → V p l e (rmN 3 79) s m args below meth c E 8 0 0 (MQ below (va_Qv P (wdP E) (eA E s.heap.size)) args s 0 0 (eA E s.heap.size)) 147 [(0, .ref (eAd E 9)), (1, .int x1), (2, .long x2), (4, .int x4), (5, .int x5), (6, .int x6), (7, .int x7)] [] μ) (x1 : Int32) (x2 : Int64) (x4 : Int32) (x5 : Int32) (x6 : Int32) (x7 : Int32) (y1 : Int32) (μ : MemT) (h : t_X9_findGroups_287 K7 K23 K147 P x1 x2 x4 x5 x6 x7 y1 μ) : V p l e (rmN 3 79) s m args below meth c E 8 0 0 (MQ below (va_Qv P (wdP E) (eA E s.heap.size)) args s 0 0 (eA E s.heap.size)) 287 [(0, .ref (eAd E 9)), (1, .int x1), (2, .long x2), (4, .int x4), (5, .int x5), (6, .int x6), (7, .int x7)] [.int y1, .ref (eAd E 9)] μ := by
  unfold t_X9_findGroups_287 at h
  refine pf_X9_183 C dX9_findGroups_287 ?_
  refine v_nmM (fun μ1 e_μ1 => ?_)
  replace h := h μ1 e_μ1
  refine v_iload C 3 rfl dX9_findGroups_290 ?_
  refine v_if_eq C 306 (by decide) dX9_findGroups_292 (fun q3 => ?_) (fun q3 => ?_)
  · replace h := h.1 q3
    refine v_iload_n C 1 rfl rfl dX9_findGroups_306 ?_
    refine v_istore_n C [(1, .int x1), (0, .ref (eAd E 9)), (2, .long x2), (4, .int x4), (5, .int x5), (6, .int x6), (7, .int x7)] rfl (by decide) rfl dX9_findGroups_307 ?_
    refine v_goto C 7 (by decide) dX9_findGroups_308 ?_
    refine v_sub C [1, 0] rfl ?_
    exact hK7 _ _ h
  · replace h := h.2 q3
    refine v_iload C 5 rfl dX9_findGroups_295 ?_
    refine v_if_ne C 306 (by decide) dX9_findGroups_297 (fun q2 => ?_) (fun q2 => ?_)
    · replace h := h.1 q2
      refine v_iload_n C 1 rfl rfl dX9_findGroups_306 ?_
      refine v_istore_n C [(1, .int x1), (0, .ref (eAd E 9)), (2, .long x2), (4, .int x4), (5, .int x5), (6, .int x6), (7, .int x7)] rfl (by decide) rfl dX9_findGroups_307 ?_
      refine v_goto C 7 (by decide) dX9_findGroups_308 ?_
      refine v_sub C [1, 0] rfl ?_
      exact hK7 _ _ h
    · replace h := h.2 q2
      refine v_iload_n C 1 rfl rfl dX9_findGroups_300 ?_
      refine v_iconst (v := (1 : Int32)) C dX9_findGroups_301 (by decide) ?_
      refine v_iadd C dX9_findGroups_302 ?_
      refine v_goto C 307 (by decide) dX9_findGroups_303 ?_
      refine v_istore_n C [(1, .int (x1 + (1 : Int32))), (0, .ref (eAd E 9)), (2, .long x2), (4, .int x4), (5, .int x5), (6, .int x6), (7, .int x7)] rfl (by decide) rfl dX9_findGroups_307 ?_
      refine v_goto C 7 (by decide) dX9_findGroups_308 ?_
      refine v_sub C [1, 0] rfl ?_
      exact hK7 _ _ h
set_option maxRecDepth 10000 in
set_option maxHeartbeats 4000000 in
theorem so_X9_findGroups_221 {p : Program} {l : Launch} {e : Env} {s : State} {m : MethodId} {args : Array Value} {below : List Frame} {meth : Method} {c : Code} {E : EvT} {P : MemT → Prop} (C : Cx p s m args meth c E cX9_findGroups 8 RX9) (hr : meth.sig.returnType = none) {K7 : Int32 → MemT → Prop} (hK7 : ∀ (x1 : Int32) (μ : MemT), K7 x1 μ → V p l e (rmN 3 79) s m args below meth c E 8 0 0 (MQ below (va_Qv P (wdP E) (eA E s.heap.size)) args s 0 0 (eA E s.heap.size)) 7 [(0, .ref (eAd E 9)), (1, .int x1)] [] μ) {K23 : Int32 → Int64 → Int32 → Int32 → MemT → Prop} (hK23 : ∀ (x1 : Int32) (x2 : Int64) (x4 : Int32) (x5 : Int32) (μ : MemT), K23 x1 x2 x4 x5 μ → V p l e (rmN 3 79) s m args below meth c E 8 0 0 (MQ below (va_Qv P (wdP E) (eA E s.heap.size)) args s 0 0 (eA E s.heap.size)) 23 [(0, .ref (eAd E 9)), (1, .int x1), (2, .long x2), (4, .int x4), (5, .int x5)] [] μ) {K147 : Int32 → Int64 → Int32 → Int32 → Int32 → Int32 → MemT → Prop} (hK147 : ∀ (x1 : Int32) (x2 : Int64) (x4 : Int32) (x5 : Int32) (x6 : Int32) (x7 : Int32) (μ : MemT), K147 x1 x2 x4 x5 x6 x7 μ → V p l e (rmN 3 79) s m args below meth c E 8 0 0 (MQ below (va_Qv P (wdP E) (eA E s.heap.size)) args s 0 0 (eA E s.heap.size)) 147 [(0, .ref (eAd E 9)), (1, .int x1), (2, .long x2), (4, .int x4), (5, .int x5), (6, .int x6), (7, .int x7)] [] μ) (x1 : Int32) (x2 : Int64) (x4 : Int32) (x5 : Int32) (x6 : Int32) (x7 : Int32) (μ : MemT) (h : t_X9_findGroups_221 K7 K23 K147 P x1 x2 x4 x5 x6 x7 μ) : V p l e (rmN 3 79) s m args below meth c E 8 0 0 (MQ below (va_Qv P (wdP E) (eA E s.heap.size)) args s 0 0 (eA E s.heap.size)) 221 [(0, .ref (eAd E 9)), (1, .int x1), (2, .long x2), (4, .int x4), (5, .int x5), (6, .int x6), (7, .int x7)] [] μ := by
  unfold t_X9_findGroups_221 at h
  refine v_iload C 3 rfl dX9_findGroups_221 ?_
  refine v_if_ne C 248 (by decide) dX9_findGroups_223 (fun q6 => ?_) (fun q6 => ?_)
  · replace h := h.1 q6
    refine v_iinc (v := (x7 + 1)) C 6 [(7, .int (x7 + 1)), (0, .ref (eAd E 9)), (1, .int x1), (2, .long x2), (4, .int x4), (5, .int x5), (6, .int x6)] rfl rfl (by decide) rfl dX9_findGroups_248 ?_
    refine v_goto C 147 (by decide) dX9_findGroups_251 ?_
    refine v_sub C [1, 2, 3, 4, 5, 6, 0] rfl ?_
    exact hK147 _ _ _ _ _ _ _ h
  · replace h := h.2 q6
    refine v_aload_n C 0 rfl rfl dX9_findGroups_226 ?_
    refine gf_X9_87 C dX9_findGroups_227 ?_
    refine v_iload C 6 rfl dX9_findGroups_230 ?_
    obtain ⟨b1, h⟩ := h
    refine v_iald C 70 (by decide) rfl b1 dX9_findGroups_232 ?_
    refine v_iload_n C 1 rfl rfl dX9_findGroups_233 ?_
    refine v_icmp_le C 248 (by decide) dX9_findGroups_234 (fun q5 => ?_) (fun q5 => ?_)
    · replace h := h.1 q5
      refine v_iinc (v := (x7 + 1)) C 6 [(7, .int (x7 + 1)), (0, .ref (eAd E 9)), (1, .int x1), (2, .long x2), (4, .int x4), (5, .int x5), (6, .int x6)] rfl rfl (by decide) rfl dX9_findGroups_248 ?_
      refine v_goto C 147 (by decide) dX9_findGroups_251 ?_
      refine v_sub C [1, 2, 3, 4, 5, 6, 0] rfl ?_
      exact hK147 _ _ _ _ _ _ _ h
    · replace h := h.2 q5
      refine v_aload_n C 0 rfl rfl dX9_findGroups_237 ?_
      refine gf_X9_87 C dX9_findGroups_238 ?_
      refine v_iload C 6 rfl dX9_findGroups_241 ?_
      refine v_dup2 C rfl rfl dX9_findGroups_243 ?_
      obtain ⟨b2, h⟩ := h
      refine v_iald C 70 (by decide) rfl b2 dX9_findGroups_244 ?_
      refine v_iconst (v := (1 : Int32)) C dX9_findGroups_245 (by decide) ?_
      refine v_isub C dX9_findGroups_246 ?_
      obtain ⟨b3, h⟩ := h
      refine v_iast C 70 (by decide) rfl b3 dX9_findGroups_247 ?_
      refine v_nmM (fun μ4 e_μ4 => ?_)
      replace h := h μ4 e_μ4
      refine v_iinc (v := (x7 + 1)) C 6 [(7, .int (x7 + 1)), (0, .ref (eAd E 9)), (1, .int x1), (2, .long x2), (4, .int x4), (5, .int x5), (6, .int x6)] rfl rfl (by decide) rfl dX9_findGroups_248 ?_
      refine v_goto C 147 (by decide) dX9_findGroups_251 ?_
      refine v_sub C [1, 2, 3, 4, 5, 6, 0] rfl ?_
      exact hK147 _ _ _ _ _ _ _ h
set_option maxRecDepth 10000 in
set_option maxHeartbeats 4000000 in
theorem so_X9_findGroups_207 {p : Program} {l : Launch} {e : Env} {s : State} {m : MethodId} {args : Array Value} {below : List Frame} {meth : Method} {c : Code} {E : EvT} {P : MemT → Prop} (C : Cx p s m args meth c E cX9_findGroups 8 RX9) (hr : meth.sig.returnType = none) {K7 : Int32 → MemT → Prop} (hK7 : ∀ (x1 : Int32) (μ : MemT), K7 x1 μ → V p l e (rmN 3 79) s m args below meth c E 8 0 0 (MQ below (va_Qv P (wdP E) (eA E s.heap.size)) args s 0 0 (eA E s.heap.size)) 7 [(0, .ref (eAd E 9)), (1, .int x1)] [] μ) {K23 : Int32 → Int64 → Int32 → Int32 → MemT → Prop} (hK23 : ∀ (x1 : Int32) (x2 : Int64) (x4 : Int32) (x5 : Int32) (μ : MemT), K23 x1 x2 x4 x5 μ → V p l e (rmN 3 79) s m args below meth c E 8 0 0 (MQ below (va_Qv P (wdP E) (eA E s.heap.size)) args s 0 0 (eA E s.heap.size)) 23 [(0, .ref (eAd E 9)), (1, .int x1), (2, .long x2), (4, .int x4), (5, .int x5)] [] μ) {K147 : Int32 → Int64 → Int32 → Int32 → Int32 → Int32 → MemT → Prop} (hK147 : ∀ (x1 : Int32) (x2 : Int64) (x4 : Int32) (x5 : Int32) (x6 : Int32) (x7 : Int32) (μ : MemT), K147 x1 x2 x4 x5 x6 x7 μ → V p l e (rmN 3 79) s m args below meth c E 8 0 0 (MQ below (va_Qv P (wdP E) (eA E s.heap.size)) args s 0 0 (eA E s.heap.size)) 147 [(0, .ref (eAd E 9)), (1, .int x1), (2, .long x2), (4, .int x4), (5, .int x5), (6, .int x6), (7, .int x7)] [] μ) (x1 : Int32) (x2 : Int64) (x4 : Int32) (x5 : Int32) (x6 : Int32) (x7 : Int32) (μ : MemT) (h : t_X9_findGroups_207 K7 K23 K147 P x1 x2 x4 x5 x6 x7 μ) : V p l e (rmN 3 79) s m args below meth c E 8 0 0 (MQ below (va_Qv P (wdP E) (eA E s.heap.size)) args s 0 0 (eA E s.heap.size)) 207 [(0, .ref (eAd E 9)), (1, .int x1), (2, .long x2), (4, .int x4), (5, .int x5), (6, .int x6), (7, .int x7)] [] μ := by
  unfold t_X9_findGroups_207 at h
  refine v_aload_n C 0 rfl rfl dX9_findGroups_207 ?_
  refine gf_X9_87 C dX9_findGroups_208 ?_
  refine v_iload C 6 rfl dX9_findGroups_211 ?_
  refine v_dup2 C rfl rfl dX9_findGroups_213 ?_
  obtain ⟨b1, h⟩ := h
  refine v_iald C 70 (by decide) rfl b1 dX9_findGroups_214 ?_
  refine v_iconst (v := (1 : Int32)) C dX9_findGroups_215 (by decide) ?_
  refine v_iadd C dX9_findGroups_216 ?_
  obtain ⟨b2, h⟩ := h
  refine v_iast C 70 (by decide) rfl b2 dX9_findGroups_217 ?_
  refine v_nmM (fun μ3 e_μ3 => ?_)
  replace h := h μ3 e_μ3
  refine v_goto C 248 (by decide) dX9_findGroups_218 ?_
  refine v_iinc (v := (x7 + 1)) C 6 [(7, .int (x7 + 1)), (0, .ref (eAd E 9)), (1, .int x1), (2, .long x2), (4, .int x4), (5, .int x5), (6, .int x6)] rfl rfl (by decide) rfl dX9_findGroups_248 ?_
  refine v_goto C 147 (by decide) dX9_findGroups_251 ?_
  refine v_sub C [1, 2, 3, 4, 5, 6, 0] rfl ?_
  exact hK147 _ _ _ _ _ _ _ h
set_option maxRecDepth 10000 in
set_option maxHeartbeats 4000000 in
theorem so_X9_findGroups_196 {p : Program} {l : Launch} {e : Env} {s : State} {m : MethodId} {args : Array Value} {below : List Frame} {meth : Method} {c : Code} {E : EvT} {P : MemT → Prop} (C : Cx p s m args meth c E cX9_findGroups 8 RX9) (hr : meth.sig.returnType = none) {K7 : Int32 → MemT → Prop} (hK7 : ∀ (x1 : Int32) (μ : MemT), K7 x1 μ → V p l e (rmN 3 79) s m args below meth c E 8 0 0 (MQ below (va_Qv P (wdP E) (eA E s.heap.size)) args s 0 0 (eA E s.heap.size)) 7 [(0, .ref (eAd E 9)), (1, .int x1)] [] μ) {K23 : Int32 → Int64 → Int32 → Int32 → MemT → Prop} (hK23 : ∀ (x1 : Int32) (x2 : Int64) (x4 : Int32) (x5 : Int32) (μ : MemT), K23 x1 x2 x4 x5 μ → V p l e (rmN 3 79) s m args below meth c E 8 0 0 (MQ below (va_Qv P (wdP E) (eA E s.heap.size)) args s 0 0 (eA E s.heap.size)) 23 [(0, .ref (eAd E 9)), (1, .int x1), (2, .long x2), (4, .int x4), (5, .int x5)] [] μ) {K147 : Int32 → Int64 → Int32 → Int32 → Int32 → Int32 → MemT → Prop} (hK147 : ∀ (x1 : Int32) (x2 : Int64) (x4 : Int32) (x5 : Int32) (x6 : Int32) (x7 : Int32) (μ : MemT), K147 x1 x2 x4 x5 x6 x7 μ → V p l e (rmN 3 79) s m args below meth c E 8 0 0 (MQ below (va_Qv P (wdP E) (eA E s.heap.size)) args s 0 0 (eA E s.heap.size)) 147 [(0, .ref (eAd E 9)), (1, .int x1), (2, .long x2), (4, .int x4), (5, .int x5), (6, .int x6), (7, .int x7)] [] μ) (x1 : Int32) (x2 : Int64) (x4 : Int32) (x5 : Int32) (x6 : Int32) (x7 : Int32) (y1 : Int32) (y2 : Int32) (μ : MemT) (h : t_X9_findGroups_196 K7 K23 K147 P x1 x2 x4 x5 x6 x7 y1 y2 μ) : V p l e (rmN 3 79) s m args below meth c E 8 0 0 (MQ below (va_Qv P (wdP E) (eA E s.heap.size)) args s 0 0 (eA E s.heap.size)) 196 [(0, .ref (eAd E 9)), (1, .int x1), (2, .long x2), (4, .int x4), (5, .int x5), (6, .int x6), (7, .int x7)] [.int y2, .int y1, .ref (eAd E 9)] μ := by
  unfold t_X9_findGroups_196 at h
  obtain ⟨P1, hs, h⟩ := h
  refine v_callVl C 9 [.int y1, .int y2] (by decide) rfl rfl rfl (so_X9_start y1 y2 μ P1 hs) gw_X9_169 rfl rfl dd_X9_start ⟨by decide, by decide⟩ rfl rfl (Nat.le_of_ble_eq_true rfl) ⟨by decide, by decide⟩ dX9_findGroups_196 (fun r4 μ2 q3 => ?_)
  replace h := h r4 μ2 q3
  refine v_aload_n C 0 rfl rfl dX9_findGroups_199 ?_
  refine gf_X9_179 C dX9_findGroups_200 ?_
  refine v_lcmp_lt C 221 (by decide) dX9_findGroups_203 dX9_findGroups_204 (fun q5 => ?_) (fun q5 => ?_)
  · replace h := h.1 q5
    exact so_X9_findGroups_221 C hr hK7 hK23 hK147 _ _ _ _ _ _ _ h
  · replace h := h.2 q5
    exact so_X9_findGroups_207 C hr hK7 hK23 hK147 _ _ _ _ _ _ _ h
set_option maxRecDepth 10000 in
set_option maxHeartbeats 4000000 in
theorem so_X9_findGroups_65 {p : Program} {l : Launch} {e : Env} {s : State} {m : MethodId} {args : Array Value} {below : List Frame} {meth : Method} {c : Code} {E : EvT} {P : MemT → Prop} (C : Cx p s m args meth c E cX9_findGroups 8 RX9) (hr : meth.sig.returnType = none) {K7 : Int32 → MemT → Prop} (hK7 : ∀ (x1 : Int32) (μ : MemT), K7 x1 μ → V p l e (rmN 3 79) s m args below meth c E 8 0 0 (MQ below (va_Qv P (wdP E) (eA E s.heap.size)) args s 0 0 (eA E s.heap.size)) 7 [(0, .ref (eAd E 9)), (1, .int x1)] [] μ) {K23 : Int32 → Int64 → Int32 → Int32 → MemT → Prop} (hK23 : ∀ (x1 : Int32) (x2 : Int64) (x4 : Int32) (x5 : Int32) (μ : MemT), K23 x1 x2 x4 x5 μ → V p l e (rmN 3 79) s m args below meth c E 8 0 0 (MQ below (va_Qv P (wdP E) (eA E s.heap.size)) args s 0 0 (eA E s.heap.size)) 23 [(0, .ref (eAd E 9)), (1, .int x1), (2, .long x2), (4, .int x4), (5, .int x5)] [] μ) {K147 : Int32 → Int64 → Int32 → Int32 → Int32 → Int32 → MemT → Prop} (hK147 : ∀ (x1 : Int32) (x2 : Int64) (x4 : Int32) (x5 : Int32) (x6 : Int32) (x7 : Int32) (μ : MemT), K147 x1 x2 x4 x5 x6 x7 μ → V p l e (rmN 3 79) s m args below meth c E 8 0 0 (MQ below (va_Qv P (wdP E) (eA E s.heap.size)) args s 0 0 (eA E s.heap.size)) 147 [(0, .ref (eAd E 9)), (1, .int x1), (2, .long x2), (4, .int x4), (5, .int x5), (6, .int x6), (7, .int x7)] [] μ) (x1 : Int32) (x2 : Int64) (x4 : Int32) (x5 : Int32) (x6 : Int32) (y0 : Int32) (μ : MemT) (h : t_X9_findGroups_65 K7 K23 K147 P x1 x2 x4 x5 x6 y0 μ) : V p l e (rmN 3 79) s m args below meth c E 8 0 0 (MQ below (va_Qv P (wdP E) (eA E s.heap.size)) args s 0 0 (eA E s.heap.size)) 65 [(0, .ref (eAd E 9)), (1, .int x1), (2, .long x2), (4, .int x4), (5, .int x5), (6, .int x6)] [.int y0] μ := by
  unfold t_X9_findGroups_65 at h
  refine v_istore C [(4, .int y0), (0, .ref (eAd E 9)), (1, .int x1), (2, .long x2), (5, .int x5), (6, .int x6)] (by decide) rfl dX9_findGroups_65 ?_
  refine v_iload C 5 rfl dX9_findGroups_67 ?_
  refine v_if_eq C 96 (by decide) dX9_findGroups_69 (fun q4 => ?_) (fun q4 => ?_)
  · replace h := h.1 q4
    refine v_lload_n C 3 rfl rfl dX9_findGroups_96 ?_
    refine v_lstore_n C [(2, .long x2), (4, .int y0), (0, .ref (eAd E 9)), (1, .int x1), (5, .int x5), (6, .int x6)] rfl (by decide) rfl dX9_findGroups_97 ?_
    refine v_iinc (v := (x5 + 1)) C 4 [(5, .int (x5 + 1)), (2, .long x2), (4, .int y0), (0, .ref (eAd E 9)), (1, .int x1), (6, .int x6)] rfl rfl (by decide) rfl dX9_findGroups_98 ?_
    refine v_goto C 23 (by decide) dX9_findGroups_101 ?_
    refine v_sub C [3, 4, 1, 2, 0] rfl ?_
    exact hK23 _ _ _ _ _ h
  · replace h := h.2 q4
    refine v_aload_n C 1 rfl rfl dX9_findGroups_72 ?_
    refine gf_X9_84 C dX9_findGroups_73 ?_
    refine v_iload C 4 rfl dX9_findGroups_76 ?_
    obtain ⟨b1, h⟩ := h
    refine v_iald C 69 (by decide) rfl b1 dX9_findGroups_78 ?_
    refine v_i2l C dX9_findGroups_79 ?_
    refine v_lload_n C 3 rfl rfl dX9_findGroups_80 ?_
    refine v_lcmp_le C 96 (by decide) dX9_findGroups_81 dX9_findGroups_82 (fun q3 => ?_) (fun q3 => ?_)
    · replace h := h.1 q3
      refine v_lload_n C 3 rfl rfl dX9_findGroups_96 ?_
      refine v_lstore_n C [(2, .long x2), (4, .int y0), (0, .ref (eAd E 9)), (1, .int x1), (5, .int x5), (6, .int x6)] rfl (by decide) rfl dX9_findGroups_97 ?_
      refine v_iinc (v := (x5 + 1)) C 4 [(5, .int (x5 + 1)), (2, .long x2), (4, .int y0), (0, .ref (eAd E 9)), (1, .int x1), (6, .int x6)] rfl rfl (by decide) rfl dX9_findGroups_98 ?_
      refine v_goto C 23 (by decide) dX9_findGroups_101 ?_
      refine v_sub C [3, 4, 1, 2, 0] rfl ?_
      exact hK23 _ _ _ _ _ h
    · replace h := h.2 q3
      refine v_aload_n C 1 rfl rfl dX9_findGroups_85 ?_
      refine gf_X9_84 C dX9_findGroups_86 ?_
      refine v_iload C 4 rfl dX9_findGroups_89 ?_
      obtain ⟨b2, h⟩ := h
      refine v_iald C 69 (by decide) rfl b2 dX9_findGroups_91 ?_
      refine v_i2l C dX9_findGroups_92 ?_
      refine v_goto C 97 (by decide) dX9_findGroups_93 ?_
      refine v_lstore_n C [(2, .long ((μ.1 69 x5.toNatClampNeg).toInt64)), (4, .int y0), (0, .ref (eAd E 9)), (1, .int x1), (5, .int x5), (6, .int x6)] rfl (by decide) rfl dX9_findGroups_97 ?_
      refine v_iinc (v := (x5 + 1)) C 4 [(5, .int (x5 + 1)), (2, .long ((μ.1 69 x5.toNatClampNeg).toInt64)), (4, .int y0), (0, .ref (eAd E 9)), (1, .int x1), (6, .int x6)] rfl rfl (by decide) rfl dX9_findGroups_98 ?_
      refine v_goto C 23 (by decide) dX9_findGroups_101 ?_
      refine v_sub C [3, 4, 1, 2, 0] rfl ?_
      exact hK23 _ _ _ _ _ h
set_option maxRecDepth 10000 in
set_option maxHeartbeats 4000000 in
theorem so_X9_findGroups_60 {p : Program} {l : Launch} {e : Env} {s : State} {m : MethodId} {args : Array Value} {below : List Frame} {meth : Method} {c : Code} {E : EvT} {P : MemT → Prop} (C : Cx p s m args meth c E cX9_findGroups 8 RX9) (hr : meth.sig.returnType = none) {K7 : Int32 → MemT → Prop} (hK7 : ∀ (x1 : Int32) (μ : MemT), K7 x1 μ → V p l e (rmN 3 79) s m args below meth c E 8 0 0 (MQ below (va_Qv P (wdP E) (eA E s.heap.size)) args s 0 0 (eA E s.heap.size)) 7 [(0, .ref (eAd E 9)), (1, .int x1)] [] μ) {K23 : Int32 → Int64 → Int32 → Int32 → MemT → Prop} (hK23 : ∀ (x1 : Int32) (x2 : Int64) (x4 : Int32) (x5 : Int32) (μ : MemT), K23 x1 x2 x4 x5 μ → V p l e (rmN 3 79) s m args below meth c E 8 0 0 (MQ below (va_Qv P (wdP E) (eA E s.heap.size)) args s 0 0 (eA E s.heap.size)) 23 [(0, .ref (eAd E 9)), (1, .int x1), (2, .long x2), (4, .int x4), (5, .int x5)] [] μ) {K147 : Int32 → Int64 → Int32 → Int32 → Int32 → Int32 → MemT → Prop} (hK147 : ∀ (x1 : Int32) (x2 : Int64) (x4 : Int32) (x5 : Int32) (x6 : Int32) (x7 : Int32) (μ : MemT), K147 x1 x2 x4 x5 x6 x7 μ → V p l e (rmN 3 79) s m args below meth c E 8 0 0 (MQ below (va_Qv P (wdP E) (eA E s.heap.size)) args s 0 0 (eA E s.heap.size)) 147 [(0, .ref (eAd E 9)), (1, .int x1), (2, .long x2), (4, .int x4), (5, .int x5), (6, .int x6), (7, .int x7)] [] μ) (x1 : Int32) (x2 : Int64) (x4 : Int32) (x5 : Int32) (x6 : Int32) (μ : MemT) (h : t_X9_findGroups_60 K7 K23 K147 P x1 x2 x4 x5 x6 μ) : V p l e (rmN 3 79) s m args below meth c E 8 0 0 (MQ below (va_Qv P (wdP E) (eA E s.heap.size)) args s 0 0 (eA E s.heap.size)) 60 [(0, .ref (eAd E 9)), (1, .int x1), (2, .long x2), (4, .int x4), (5, .int x5), (6, .int x6)] [] μ := by
  unfold t_X9_findGroups_60 at h
  refine v_iconst (v := (1 : Int32)) C dX9_findGroups_60 (by decide) ?_
  refine v_goto C 65 (by decide) dX9_findGroups_61 ?_
  exact so_X9_findGroups_65 C hr hK7 hK23 hK147 _ _ _ _ _ _ _ h
set_option maxRecDepth 10000 in
set_option maxHeartbeats 4000000 in
theorem so_X9_findGroups_48 {p : Program} {l : Launch} {e : Env} {s : State} {m : MethodId} {args : Array Value} {below : List Frame} {meth : Method} {c : Code} {E : EvT} {P : MemT → Prop} (C : Cx p s m args meth c E cX9_findGroups 8 RX9) (hr : meth.sig.returnType = none) {K7 : Int32 → MemT → Prop} (hK7 : ∀ (x1 : Int32) (μ : MemT), K7 x1 μ → V p l e (rmN 3 79) s m args below meth c E 8 0 0 (MQ below (va_Qv P (wdP E) (eA E s.heap.size)) args s 0 0 (eA E s.heap.size)) 7 [(0, .ref (eAd E 9)), (1, .int x1)] [] μ) {K23 : Int32 → Int64 → Int32 → Int32 → MemT → Prop} (hK23 : ∀ (x1 : Int32) (x2 : Int64) (x4 : Int32) (x5 : Int32) (μ : MemT), K23 x1 x2 x4 x5 μ → V p l e (rmN 3 79) s m args below meth c E 8 0 0 (MQ below (va_Qv P (wdP E) (eA E s.heap.size)) args s 0 0 (eA E s.heap.size)) 23 [(0, .ref (eAd E 9)), (1, .int x1), (2, .long x2), (4, .int x4), (5, .int x5)] [] μ) {K147 : Int32 → Int64 → Int32 → Int32 → Int32 → Int32 → MemT → Prop} (hK147 : ∀ (x1 : Int32) (x2 : Int64) (x4 : Int32) (x5 : Int32) (x6 : Int32) (x7 : Int32) (μ : MemT), K147 x1 x2 x4 x5 x6 x7 μ → V p l e (rmN 3 79) s m args below meth c E 8 0 0 (MQ below (va_Qv P (wdP E) (eA E s.heap.size)) args s 0 0 (eA E s.heap.size)) 147 [(0, .ref (eAd E 9)), (1, .int x1), (2, .long x2), (4, .int x4), (5, .int x5), (6, .int x6), (7, .int x7)] [] μ) (x1 : Int32) (x2 : Int64) (x4 : Int32) (x5 : Int32) (y0 : Int32) (μ : MemT) (h : t_X9_findGroups_48 K7 K23 K147 P x1 x2 x4 x5 y0 μ) : V p l e (rmN 3 79) s m args below meth c E 8 0 0 (MQ below (va_Qv P (wdP E) (eA E s.heap.size)) args s 0 0 (eA E s.heap.size)) 48 [(0, .ref (eAd E 9)), (1, .int x1), (2, .long x2), (4, .int x4), (5, .int x5)] [.int y0] μ := by
  unfold t_X9_findGroups_48 at h
  refine v_istore C [(6, .int y0), (0, .ref (eAd E 9)), (1, .int x1), (2, .long x2), (4, .int x4), (5, .int x5)] (by decide) rfl dX9_findGroups_48 ?_
  refine v_iload C 4 rfl dX9_findGroups_50 ?_
  refine v_if_ne C 60 (by decide) dX9_findGroups_52 (fun q2 => ?_) (fun q2 => ?_)
  · replace h := h.1 q2
    refine v_sub C [1, 2, 3, 4, 5, 0] rfl ?_
    exact so_X9_findGroups_60 C hr hK7 hK23 hK147 _ _ _ _ _ _ h
  · replace h := h.2 q2
    refine v_iload C 0 rfl dX9_findGroups_55 ?_
    refine v_if_eq C 64 (by decide) dX9_findGroups_57 (fun q1 => ?_) (fun q1 => ?_)
    · replace h := h.1 q1
      refine v_iconst (v := (0 : Int32)) C dX9_findGroups_64 (by decide) ?_
      refine v_sub C [1, 2, 3, 4, 5, 0] rfl ?_
      exact so_X9_findGroups_65 C hr hK7 hK23 hK147 _ _ _ _ _ _ _ h
    · replace h := h.2 q1
      refine v_sub C [1, 2, 3, 4, 5, 0] rfl ?_
      exact so_X9_findGroups_60 C hr hK7 hK23 hK147 _ _ _ _ _ _ h
set_option maxRecDepth 10000 in
set_option maxHeartbeats 4000000 in
theorem so_X9_findGroups_147 {p : Program} {l : Launch} {e : Env} {s : State} {m : MethodId} {args : Array Value} {below : List Frame} {meth : Method} {c : Code} {E : EvT} {P : MemT → Prop} (C : Cx p s m args meth c E cX9_findGroups 8 RX9) (hr : meth.sig.returnType = none) {K7 : Int32 → MemT → Prop} (hK7 : ∀ (x1 : Int32) (μ : MemT), K7 x1 μ → V p l e (rmN 3 79) s m args below meth c E 8 0 0 (MQ below (va_Qv P (wdP E) (eA E s.heap.size)) args s 0 0 (eA E s.heap.size)) 7 [(0, .ref (eAd E 9)), (1, .int x1)] [] μ) {K23 : Int32 → Int64 → Int32 → Int32 → MemT → Prop} (hK23 : ∀ (x1 : Int32) (x2 : Int64) (x4 : Int32) (x5 : Int32) (μ : MemT), K23 x1 x2 x4 x5 μ → V p l e (rmN 3 79) s m args below meth c E 8 0 0 (MQ below (va_Qv P (wdP E) (eA E s.heap.size)) args s 0 0 (eA E s.heap.size)) 23 [(0, .ref (eAd E 9)), (1, .int x1), (2, .long x2), (4, .int x4), (5, .int x5)] [] μ) {K147 : Int32 → Int64 → Int32 → Int32 → Int32 → Int32 → MemT → Prop} (hK147 : ∀ (x1 : Int32) (x2 : Int64) (x4 : Int32) (x5 : Int32) (x6 : Int32) (x7 : Int32) (μ : MemT), K147 x1 x2 x4 x5 x6 x7 μ → V p l e (rmN 3 79) s m args below meth c E 8 0 0 (MQ below (va_Qv P (wdP E) (eA E s.heap.size)) args s 0 0 (eA E s.heap.size)) 147 [(0, .ref (eAd E 9)), (1, .int x1), (2, .long x2), (4, .int x4), (5, .int x5), (6, .int x6), (7, .int x7)] [] μ) (x1 : Int32) (x2 : Int64) (x4 : Int32) (x5 : Int32) (x6 : Int32) (x7 : Int32) (μ : MemT) (h : t_X9_findGroups_147 K7 K23 K147 P x1 x2 x4 x5 x6 x7 μ) : V p l e (rmN 3 79) s m args below meth c E 8 0 0 (MQ below (va_Qv P (wdP E) (eA E s.heap.size)) args s 0 0 (eA E s.heap.size)) 147 [(0, .ref (eAd E 9)), (1, .int x1), (2, .long x2), (4, .int x4), (5, .int x5), (6, .int x6), (7, .int x7)] [] μ := by
  unfold t_X9_findGroups_147 at h
  refine v_iload C 6 rfl dX9_findGroups_147 ?_
  refine v_aload_n C 0 rfl rfl dX9_findGroups_149 ?_
  refine gf_X9_150 C dX9_findGroups_150 ?_
  refine v_icmp_ge C 254 (by decide) dX9_findGroups_153 (fun q9 => ?_) (fun q9 => ?_)
  · replace h := h.1 q9
    refine v_aload_n C 0 rfl rfl dX9_findGroups_254 ?_
    refine v_iload C 5 rfl dX9_findGroups_255 ?_
    refine v_if_eq C 269 (by decide) dX9_findGroups_257 (fun q2 => ?_) (fun q2 => ?_)
    · replace h := h.1 q2
      refine v_iload C 3 rfl dX9_findGroups_269 ?_
      refine v_if_eq C 281 (by decide) dX9_findGroups_271 (fun q1 => ?_) (fun q1 => ?_)
      · replace h := h.1 q1
        refine v_aload_n C 0 rfl rfl dX9_findGroups_281 ?_
        refine gf_X9_183 C dX9_findGroups_282 ?_
        refine v_iconst (v := (1 : Int32)) C dX9_findGroups_285 (by decide) ?_
        refine v_isub C dX9_findGroups_286 ?_
        exact so_X9_findGroups_287 C hr hK7 hK23 hK147 _ _ _ _ _ _ _ _ h
      · replace h := h.2 q1
        refine v_aload_n C 0 rfl rfl dX9_findGroups_274 ?_
        refine gf_X9_183 C dX9_findGroups_275 ?_
        refine v_goto C 287 (by decide) dX9_findGroups_278 ?_
        exact so_X9_findGroups_287 C hr hK7 hK23 hK147 _ _ _ _ _ _ _ _ h
    · replace h := h.2 q2
      refine v_aload_n C 0 rfl rfl dX9_findGroups_260 ?_
      refine gf_X9_183 C dX9_findGroups_261 ?_
      refine v_iconst (v := (1 : Int32)) C dX9_findGroups_264 (by decide) ?_
      refine v_iadd C dX9_findGroups_265 ?_
      refine v_goto C 287 (by decide) dX9_findGroups_266 ?_
      exact so_X9_findGroups_287 C hr hK7 hK23 hK147 _ _ _ _ _ _ _ _ h
  · replace h := h.2 q9
    refine v_iload C 5 rfl dX9_findGroups_156 ?_
    refine v_if_eq C 221 (by decide) dX9_findGroups_158 (fun q8 => ?_) (fun q8 => ?_)
    · replace h := h.1 q8
      exact so_X9_findGroups_221 C hr hK7 hK23 hK147 _ _ _ _ _ _ _ h
    · replace h := h.2 q8
      refine v_aload_n C 0 rfl rfl dX9_findGroups_161 ?_
      refine gf_X9_87 C dX9_findGroups_162 ?_
      refine v_iload C 6 rfl dX9_findGroups_165 ?_
      obtain ⟨b3, h⟩ := h
      refine v_iald C 70 (by decide) rfl b3 dX9_findGroups_167 ?_
      refine v_iload_n C 1 rfl rfl dX9_findGroups_168 ?_
      refine v_icmp_gt C 207 (by decide) dX9_findGroups_169 (fun q7 => ?_) (fun q7 => ?_)
      · replace h := h.1 q7
        exact so_X9_findGroups_207 C hr hK7 hK23 hK147 _ _ _ _ _ _ _ h
      · replace h := h.2 q7
        refine v_aload_n C 0 rfl rfl dX9_findGroups_172 ?_
        refine gf_X9_87 C dX9_findGroups_173 ?_
        refine v_iload C 6 rfl dX9_findGroups_176 ?_
        obtain ⟨b4, h⟩ := h
        refine v_iald C 70 (by decide) rfl b4 dX9_findGroups_178 ?_
        refine v_iload_n C 1 rfl rfl dX9_findGroups_179 ?_
        refine v_icmp_ne C 221 (by decide) dX9_findGroups_180 (fun q6 => ?_) (fun q6 => ?_)
        · replace h := h.1 q6
          exact so_X9_findGroups_221 C hr hK7 hK23 hK147 _ _ _ _ _ _ _ h
        · replace h := h.2 q6
          refine v_aload_n C 0 rfl rfl dX9_findGroups_183 ?_
          refine v_iload C 6 rfl dX9_findGroups_184 ?_
          refine v_iload C 4 rfl dX9_findGroups_186 ?_
          refine v_if_ne C 195 (by decide) dX9_findGroups_188 (fun q5 => ?_) (fun q5 => ?_)
          · replace h := h.1 q5
            refine v_iconst (v := (0 : Int32)) C dX9_findGroups_195 (by decide) ?_
            exact so_X9_findGroups_196 C hr hK7 hK23 hK147 _ _ _ _ _ _ _ _ _ h
          · replace h := h.2 q5
            refine v_iconst (v := (1 : Int32)) C dX9_findGroups_191 (by decide) ?_
            refine v_goto C 196 (by decide) dX9_findGroups_192 ?_
            exact so_X9_findGroups_196 C hr hK7 hK23 hK147 _ _ _ _ _ _ _ _ _ h
set_option maxRecDepth 10000 in
set_option maxHeartbeats 4000000 in
theorem so_X9_findGroups_23 {p : Program} {l : Launch} {e : Env} {s : State} {m : MethodId} {args : Array Value} {below : List Frame} {meth : Method} {c : Code} {E : EvT} {P : MemT → Prop} (C : Cx p s m args meth c E cX9_findGroups 8 RX9) (hr : meth.sig.returnType = none) {K7 : Int32 → MemT → Prop} (hK7 : ∀ (x1 : Int32) (μ : MemT), K7 x1 μ → V p l e (rmN 3 79) s m args below meth c E 8 0 0 (MQ below (va_Qv P (wdP E) (eA E s.heap.size)) args s 0 0 (eA E s.heap.size)) 7 [(0, .ref (eAd E 9)), (1, .int x1)] [] μ) {K23 : Int32 → Int64 → Int32 → Int32 → MemT → Prop} (hK23 : ∀ (x1 : Int32) (x2 : Int64) (x4 : Int32) (x5 : Int32) (μ : MemT), K23 x1 x2 x4 x5 μ → V p l e (rmN 3 79) s m args below meth c E 8 0 0 (MQ below (va_Qv P (wdP E) (eA E s.heap.size)) args s 0 0 (eA E s.heap.size)) 23 [(0, .ref (eAd E 9)), (1, .int x1), (2, .long x2), (4, .int x4), (5, .int x5)] [] μ) {K147 : Int32 → Int64 → Int32 → Int32 → Int32 → Int32 → MemT → Prop} (hK147 : ∀ (x1 : Int32) (x2 : Int64) (x4 : Int32) (x5 : Int32) (x6 : Int32) (x7 : Int32) (μ : MemT), K147 x1 x2 x4 x5 x6 x7 μ → V p l e (rmN 3 79) s m args below meth c E 8 0 0 (MQ below (va_Qv P (wdP E) (eA E s.heap.size)) args s 0 0 (eA E s.heap.size)) 147 [(0, .ref (eAd E 9)), (1, .int x1), (2, .long x2), (4, .int x4), (5, .int x5), (6, .int x6), (7, .int x7)] [] μ) (x1 : Int32) (x2 : Int64) (x4 : Int32) (x5 : Int32) (μ : MemT) (h : t_X9_findGroups_23 K7 K23 K147 P x1 x2 x4 x5 μ) : V p l e (rmN 3 79) s m args below meth c E 8 0 0 (MQ below (va_Qv P (wdP E) (eA E s.heap.size)) args s 0 0 (eA E s.heap.size)) 23 [(0, .ref (eAd E 9)), (1, .int x1), (2, .long x2), (4, .int x4), (5, .int x5)] [] μ := by
  unfold t_X9_findGroups_23 at h
  refine v_iload C 4 rfl dX9_findGroups_23 ?_
  refine v_aload_n C 0 rfl rfl dX9_findGroups_25 ?_
  refine gf_X9_150 C dX9_findGroups_26 ?_
  refine v_icmp_ge C 104 (by decide) dX9_findGroups_29 (fun q14 => ?_) (fun q14 => ?_)
  · replace h := h.1 q14
    refine v_aload_n C 0 rfl rfl dX9_findGroups_104 ?_
    refine v_iload_n C 1 rfl rfl dX9_findGroups_105 ?_
    refine v_iconst (v := (0 : Int32)) C dX9_findGroups_106 (by decide) ?_
    refine v_ldc2 C gc_X9_157 dX9_findGroups_107 ?_
    refine v_lload_n C 2 rfl rfl dX9_findGroups_110 ?_
    refine v_lmul C dX9_findGroups_111 ?_
    obtain ⟨P1, hs, h⟩ := h
    refine v_callVi C 9 [.int x1, .int (0 : Int32), .long ((2 : Int64) * x2)] (by decide) rfl rfl rfl (so_X9_hasGap x1 (0 : Int32) ((2 : Int64) * x2) μ P1 hs) gw_X9_186 rfl rfl dd_X9_hasGap ⟨by decide, by decide⟩ rfl rfl (Nat.le_of_ble_eq_true rfl) ⟨by decide, by decide⟩ dX9_findGroups_112 (fun r4 μ2 q3 => ?_)
    replace h := h r4 μ2 q3
    refine v_istore C [(5, .int r4), (0, .ref (eAd E 9)), (1, .int x1), (2, .long x2), (4, .int x4)] (by decide) rfl dX9_findGroups_115 ?_
    refine v_iload C 4 rfl dX9_findGroups_117 ?_
    refine v_if_eq C 141 (by decide) dX9_findGroups_119 (fun q11 => ?_) (fun q11 => ?_)
    · replace h := h.1 q11
      refine v_iconst (v := (0 : Int32)) C dX9_findGroups_141 (by decide) ?_
      refine v_istore C [(6, .int (0 : Int32)), (5, .int r4), (0, .ref (eAd E 9)), (1, .int x1), (2, .long x2), (4, .int x4)] (by decide) rfl dX9_findGroups_142 ?_
      refine v_iconst (v := (0 : Int32)) C dX9_findGroups_144 (by decide) ?_
      refine v_istore C [(7, .int (0 : Int32)), (6, .int (0 : Int32)), (5, .int r4), (0, .ref (eAd E 9)), (1, .int x1), (2, .long x2), (4, .int x4)] (by decide) rfl dX9_findGroups_145 ?_
      refine v_sub C [3, 4, 5, 6, 2, 1, 0] rfl ?_
      exact hK147 _ _ _ _ _ _ _ h
    · replace h := h.2 q11
      refine v_iload C 0 rfl dX9_findGroups_122 ?_
      refine v_if_ne C 137 (by decide) dX9_findGroups_124 (fun q10 => ?_) (fun q10 => ?_)
      · replace h := h.1 q10
        refine v_iconst (v := (1 : Int32)) C dX9_findGroups_137 (by decide) ?_
        refine v_goto C 142 (by decide) dX9_findGroups_138 ?_
        refine v_istore C [(6, .int (1 : Int32)), (5, .int r4), (0, .ref (eAd E 9)), (1, .int x1), (2, .long x2), (4, .int x4)] (by decide) rfl dX9_findGroups_142 ?_
        refine v_iconst (v := (0 : Int32)) C dX9_findGroups_144 (by decide) ?_
        refine v_istore C [(7, .int (0 : Int32)), (6, .int (1 : Int32)), (5, .int r4), (0, .ref (eAd E 9)), (1, .int x1), (2, .long x2), (4, .int x4)] (by decide) rfl dX9_findGroups_145 ?_
        refine v_sub C [3, 4, 5, 6, 2, 1, 0] rfl ?_
        exact hK147 _ _ _ _ _ _ _ h
      · replace h := h.2 q10
        refine v_aload_n C 1 rfl rfl dX9_findGroups_127 ?_
        refine v_iload_n C 2 rfl rfl dX9_findGroups_128 ?_
        refine v_iconst (v := (1 : Int32)) C dX9_findGroups_129 (by decide) ?_
        refine v_lload_n C 3 rfl rfl dX9_findGroups_130 ?_
        obtain ⟨P5, hs, h⟩ := h
        refine v_callVi C 9 [.int x1, .int (1 : Int32), .long x2] (by decide) rfl rfl rfl (so_X9_hasGap x1 (1 : Int32) x2 μ2 P5 hs) gw_X9_186 rfl rfl dd_X9_hasGap ⟨by decide, by decide⟩ rfl rfl (Nat.le_of_ble_eq_true rfl) ⟨by decide, by decide⟩ dX9_findGroups_131 (fun r8 μ6 q7 => ?_)
        replace h := h r8 μ6 q7
        refine v_if_eq C 141 (by decide) dX9_findGroups_134 (fun q9 => ?_) (fun q9 => ?_)
        · replace h := h.1 q9
          refine v_iconst (v := (0 : Int32)) C dX9_findGroups_141 (by decide) ?_
          refine v_istore C [(6, .int (0 : Int32)), (5, .int r4), (0, .ref (eAd E 9)), (1, .int x1), (2, .long x2), (4, .int x4)] (by decide) rfl dX9_findGroups_142 ?_
          refine v_iconst (v := (0 : Int32)) C dX9_findGroups_144 (by decide) ?_
          refine v_istore C [(7, .int (0 : Int32)), (6, .int (0 : Int32)), (5, .int r4), (0, .ref (eAd E 9)), (1, .int x1), (2, .long x2), (4, .int x4)] (by decide) rfl dX9_findGroups_145 ?_
          refine v_sub C [3, 4, 5, 6, 2, 1, 0] rfl ?_
          exact hK147 _ _ _ _ _ _ _ h
        · replace h := h.2 q9
          refine v_iconst (v := (1 : Int32)) C dX9_findGroups_137 (by decide) ?_
          refine v_goto C 142 (by decide) dX9_findGroups_138 ?_
          refine v_istore C [(6, .int (1 : Int32)), (5, .int r4), (0, .ref (eAd E 9)), (1, .int x1), (2, .long x2), (4, .int x4)] (by decide) rfl dX9_findGroups_142 ?_
          refine v_iconst (v := (0 : Int32)) C dX9_findGroups_144 (by decide) ?_
          refine v_istore C [(7, .int (0 : Int32)), (6, .int (1 : Int32)), (5, .int r4), (0, .ref (eAd E 9)), (1, .int x1), (2, .long x2), (4, .int x4)] (by decide) rfl dX9_findGroups_145 ?_
          refine v_sub C [3, 4, 5, 6, 2, 1, 0] rfl ?_
          exact hK147 _ _ _ _ _ _ _ h
  · replace h := h.2 q14
    refine v_aload_n C 0 rfl rfl dX9_findGroups_32 ?_
    refine gf_X9_87 C dX9_findGroups_33 ?_
    refine v_iload C 4 rfl dX9_findGroups_36 ?_
    obtain ⟨b12, h⟩ := h
    refine v_iald C 70 (by decide) rfl b12 dX9_findGroups_38 ?_
    refine v_iload_n C 1 rfl rfl dX9_findGroups_39 ?_
    refine v_icmp_ne C 47 (by decide) dX9_findGroups_40 (fun q13 => ?_) (fun q13 => ?_)
    · replace h := h.1 q13
      refine v_iconst (v := (0 : Int32)) C dX9_findGroups_47 (by decide) ?_
      exact so_X9_findGroups_48 C hr hK7 hK23 hK147 _ _ _ _ _ _ h
    · replace h := h.2 q13
      refine v_iconst (v := (1 : Int32)) C dX9_findGroups_43 (by decide) ?_
      refine v_goto C 48 (by decide) dX9_findGroups_44 ?_
      exact so_X9_findGroups_48 C hr hK7 hK23 hK147 _ _ _ _ _ _ h
set_option maxRecDepth 10000 in
set_option maxHeartbeats 4000000 in
theorem so_X9_findGroups_7 {p : Program} {l : Launch} {e : Env} {s : State} {m : MethodId} {args : Array Value} {below : List Frame} {meth : Method} {c : Code} {E : EvT} {P : MemT → Prop} (C : Cx p s m args meth c E cX9_findGroups 8 RX9) (hr : meth.sig.returnType = none) {K7 : Int32 → MemT → Prop} (hK7 : ∀ (x1 : Int32) (μ : MemT), K7 x1 μ → V p l e (rmN 3 79) s m args below meth c E 8 0 0 (MQ below (va_Qv P (wdP E) (eA E s.heap.size)) args s 0 0 (eA E s.heap.size)) 7 [(0, .ref (eAd E 9)), (1, .int x1)] [] μ) {K23 : Int32 → Int64 → Int32 → Int32 → MemT → Prop} (hK23 : ∀ (x1 : Int32) (x2 : Int64) (x4 : Int32) (x5 : Int32) (μ : MemT), K23 x1 x2 x4 x5 μ → V p l e (rmN 3 79) s m args below meth c E 8 0 0 (MQ below (va_Qv P (wdP E) (eA E s.heap.size)) args s 0 0 (eA E s.heap.size)) 23 [(0, .ref (eAd E 9)), (1, .int x1), (2, .long x2), (4, .int x4), (5, .int x5)] [] μ) {K147 : Int32 → Int64 → Int32 → Int32 → Int32 → Int32 → MemT → Prop} (hK147 : ∀ (x1 : Int32) (x2 : Int64) (x4 : Int32) (x5 : Int32) (x6 : Int32) (x7 : Int32) (μ : MemT), K147 x1 x2 x4 x5 x6 x7 μ → V p l e (rmN 3 79) s m args below meth c E 8 0 0 (MQ below (va_Qv P (wdP E) (eA E s.heap.size)) args s 0 0 (eA E s.heap.size)) 147 [(0, .ref (eAd E 9)), (1, .int x1), (2, .long x2), (4, .int x4), (5, .int x5), (6, .int x6), (7, .int x7)] [] μ) (x1 : Int32) (μ : MemT) (h : t_X9_findGroups_7 K7 K23 K147 P x1 μ) : V p l e (rmN 3 79) s m args below meth c E 8 0 0 (MQ below (va_Qv P (wdP E) (eA E s.heap.size)) args s 0 0 (eA E s.heap.size)) 7 [(0, .ref (eAd E 9)), (1, .int x1)] [] μ := by
  unfold t_X9_findGroups_7 at h
  refine v_iload_n C 1 rfl rfl dX9_findGroups_7 ?_
  refine v_aload_n C 0 rfl rfl dX9_findGroups_8 ?_
  refine gf_X9_183 C dX9_findGroups_9 ?_
  refine v_icmp_ge C 311 (by decide) dX9_findGroups_12 (fun q1 => ?_) (fun q1 => ?_)
  · replace h := h.1 q1
    exact v_vret C hr h dX9_findGroups_311
  · replace h := h.2 q1
    refine v_lconst (v := (0 : Int64)) C dX9_findGroups_15 (by decide) ?_
    refine v_lstore_n C [(2, .long (0 : Int64)), (0, .ref (eAd E 9)), (1, .int x1)] rfl (by decide) rfl dX9_findGroups_16 ?_
    refine v_iconst (v := (0 : Int32)) C dX9_findGroups_17 (by decide) ?_
    refine v_istore C [(4, .int (0 : Int32)), (2, .long (0 : Int64)), (0, .ref (eAd E 9)), (1, .int x1)] (by decide) rfl dX9_findGroups_18 ?_
    refine v_iconst (v := (0 : Int32)) C dX9_findGroups_20 (by decide) ?_
    refine v_istore C [(5, .int (0 : Int32)), (4, .int (0 : Int32)), (2, .long (0 : Int64)), (0, .ref (eAd E 9)), (1, .int x1)] (by decide) rfl dX9_findGroups_21 ?_
    refine v_sub C [3, 4, 2, 1, 0] rfl ?_
    exact hK23 _ _ _ _ _ h
set_option maxRecDepth 10000 in
set_option maxHeartbeats 4000000 in
theorem so_X9_findGroups_0 {p : Program} {l : Launch} {e : Env} {s : State} {m : MethodId} {args : Array Value} {below : List Frame} {meth : Method} {c : Code} {E : EvT} {P : MemT → Prop} (C : Cx p s m args meth c E cX9_findGroups 8 RX9) (hr : meth.sig.returnType = none) {K7 : Int32 → MemT → Prop} (hK7 : ∀ (x1 : Int32) (μ : MemT), K7 x1 μ → V p l e (rmN 3 79) s m args below meth c E 8 0 0 (MQ below (va_Qv P (wdP E) (eA E s.heap.size)) args s 0 0 (eA E s.heap.size)) 7 [(0, .ref (eAd E 9)), (1, .int x1)] [] μ) {K23 : Int32 → Int64 → Int32 → Int32 → MemT → Prop} (hK23 : ∀ (x1 : Int32) (x2 : Int64) (x4 : Int32) (x5 : Int32) (μ : MemT), K23 x1 x2 x4 x5 μ → V p l e (rmN 3 79) s m args below meth c E 8 0 0 (MQ below (va_Qv P (wdP E) (eA E s.heap.size)) args s 0 0 (eA E s.heap.size)) 23 [(0, .ref (eAd E 9)), (1, .int x1), (2, .long x2), (4, .int x4), (5, .int x5)] [] μ) {K147 : Int32 → Int64 → Int32 → Int32 → Int32 → Int32 → MemT → Prop} (hK147 : ∀ (x1 : Int32) (x2 : Int64) (x4 : Int32) (x5 : Int32) (x6 : Int32) (x7 : Int32) (μ : MemT), K147 x1 x2 x4 x5 x6 x7 μ → V p l e (rmN 3 79) s m args below meth c E 8 0 0 (MQ below (va_Qv P (wdP E) (eA E s.heap.size)) args s 0 0 (eA E s.heap.size)) 147 [(0, .ref (eAd E 9)), (1, .int x1), (2, .long x2), (4, .int x4), (5, .int x5), (6, .int x6), (7, .int x7)] [] μ) (μ : MemT) (h : t_X9_findGroups_0 K7 K23 K147 P  μ) : V p l e (rmN 3 79) s m args below meth c E 8 0 0 (MQ below (va_Qv P (wdP E) (eA E s.heap.size)) args s 0 0 (eA E s.heap.size)) 0 [(0, .ref (eAd E 9))] [] μ := by
  unfold t_X9_findGroups_0 at h
  refine v_aload_n C 0 rfl rfl dX9_findGroups_0 ?_
  refine v_iconst (v := (2 : Int32)) C dX9_findGroups_1 (by decide) ?_
  refine pf_X9_183 C dX9_findGroups_2 ?_
  refine v_nmM (fun μ1 e_μ1 => ?_)
  replace h := h μ1 e_μ1
  refine v_iconst (v := (0 : Int32)) C dX9_findGroups_5 (by decide) ?_
  refine v_istore_n C [(1, .int (0 : Int32)), (0, .ref (eAd E 9))] rfl (by decide) rfl dX9_findGroups_6 ?_
  refine v_sub C [1, 0] rfl ?_
  exact hK7 _ _ h
set_option maxRecDepth 10000 in
set_option maxHeartbeats 4000000 in
theorem so_X9_findGroups {l : Launch} {E : EvT} (μ : MemT) (P : MemT → Prop) (h : sp_X9_findGroups  μ P) : MCv l E yX9_findGroups cX9_findGroups 8 none (rmN 3 79) [.ref (eAd E 9)] μ P := by
  refine mc_entryv (by decide +kernel) (Nat.le_of_ble_eq_true rfl) (fun p e s m below meth c C hr => ?_)
  have h0 := h (fun x1_ μ => V p l e (rmN 3 79) s m ([.ref (eAd E 9)] : List Value).toArray below meth c E 8 0 0 (MQ below (va_Qv P (wdP E) (eA E s.heap.size)) ([.ref (eAd E 9)] : List Value).toArray s 0 0 (eA E s.heap.size)) 7 [(0, .ref (eAd E 9)), (1, .int x1_)] [] μ) (fun x1_ x2_ x4_ x5_ μ => V p l e (rmN 3 79) s m ([.ref (eAd E 9)] : List Value).toArray below meth c E 8 0 0 (MQ below (va_Qv P (wdP E) (eA E s.heap.size)) ([.ref (eAd E 9)] : List Value).toArray s 0 0 (eA E s.heap.size)) 23 [(0, .ref (eAd E 9)), (1, .int x1_), (2, .long x2_), (4, .int x4_), (5, .int x5_)] [] μ) (fun x1_ x2_ x4_ x5_ x6_ x7_ μ => V p l e (rmN 3 79) s m ([.ref (eAd E 9)] : List Value).toArray below meth c E 8 0 0 (MQ below (va_Qv P (wdP E) (eA E s.heap.size)) ([.ref (eAd E 9)] : List Value).toArray s 0 0 (eA E s.heap.size)) 147 [(0, .ref (eAd E 9)), (1, .int x1_), (2, .long x2_), (4, .int x4_), (5, .int x5_), (6, .int x6_), (7, .int x7_)] [] μ) (fun x1 μ ht => so_X9_findGroups_7 C hr (fun x1 μ hk => hk) (fun x1 x2 x4 x5 μ hk => hk) (fun x1 x2 x4 x5 x6 x7 μ hk => hk) x1 μ ht) (fun x1 x2 x4 x5 μ ht => so_X9_findGroups_23 C hr (fun x1 μ hk => hk) (fun x1 x2 x4 x5 μ hk => hk) (fun x1 x2 x4 x5 x6 x7 μ hk => hk) x1 x2 x4 x5 μ ht) (fun x1 x2 x4 x5 x6 x7 μ ht => so_X9_findGroups_147 C hr (fun x1 μ hk => hk) (fun x1 x2 x4 x5 μ hk => hk) (fun x1 x2 x4 x5 x6 x7 μ hk => hk) x1 x2 x4 x5 x6 x7 μ ht) 
  exact so_X9_findGroups_0 C hr (fun x1 μ hk => hk) (fun x1 x2 x4 x5 μ hk => hk) (fun x1 x2 x4 x5 x6 x7 μ hk => hk)  μ h0
set_option maxRecDepth 10000 in
set_option maxHeartbeats 4000000 in
theorem so_X9_rank_0 {p : Program} {l : Launch} {e : Env} {s : State} {m : MethodId} {args : Array Value} {below : List Frame} {meth : Method} {c : Code} {E : EvT} {P : Int32 → MemT → Prop} (C : Cx p s m args meth c E cX9_rank 1 RX9) (hr : meth.sig.returnType = (some .int)) (x0 : Int32) (μ : MemT) (h : t_X9_rank_0 P x0 μ) : V p l e (rmN 0 0) s m args below meth c E 1 0 0 (MQ below (va_Qi P (wdP E) (eA E s.heap.size)) args s 0 0 (eA E s.heap.size)) 0 [(0, .int x0)] [] μ := by
  unfold t_X9_rank_0 at h
  refine v_iload_n C 0 rfl rfl dX9_rank_0 ?_
  refine v_iconst (v := (-1 : Int32)) C dX9_rank_1 (by decide) ?_
  refine v_icmp_ne C 10 (by decide) dX9_rank_2 (fun q1 => ?_) (fun q1 => ?_)
  · replace h := h.1 q1
    refine v_iload_n C 0 rfl rfl dX9_rank_10 ?_
    exact v_iret C hr h dX9_rank_11
  · replace h := h.2 q1
    refine v_bipush (v := (101 : Int32)) C dX9_rank_5 (by decide) ?_
    refine v_goto C 11 (by decide) dX9_rank_7 ?_
    exact v_iret C hr h dX9_rank_11
set_option maxRecDepth 10000 in
set_option maxHeartbeats 4000000 in
theorem so_X9_rank {l : Launch} {E : EvT} (x0 : Int32) (μ : MemT) (P : Int32 → MemT → Prop) (h : sp_X9_rank x0 μ P) : MCi l E yX9_rank cX9_rank 1 (some .int) (rmN 0 0) [.int x0] μ P := by
  refine mc_entryi (by decide +kernel) (Nat.le_of_ble_eq_true rfl) (fun p e s m below meth c C hr => ?_)
  exact so_X9_rank_0 C hr x0 μ h
set_option maxRecDepth 10000 in
set_option maxHeartbeats 4000000 in
theorem so_X9_groupOf_0 {p : Program} {l : Launch} {e : Env} {s : State} {m : MethodId} {args : Array Value} {below : List Frame} {meth : Method} {c : Code} {E : EvT} {P : Int32 → MemT → Prop} (C : Cx p s m args meth c E cX9_groupOf 2 RX9) (hr : meth.sig.returnType = (some .int)) (x1 : Int32) (μ : MemT) (h : t_X9_groupOf_0 P x1 μ) : V p l e (rmN 0 0) s m args below meth c E 2 0 0 (MQ below (va_Qi P (wdP E) (eA E s.heap.size)) args s 0 0 (eA E s.heap.size)) 0 [(0, .ref (eAd E 9)), (1, .int x1)] [] μ := by
  unfold t_X9_groupOf_0 at h
  refine v_aload_n C 0 rfl rfl dX9_groupOf_0 ?_
  refine gf_X9_57 C dX9_groupOf_1 ?_
  refine v_iload_n C 1 rfl rfl dX9_groupOf_4 ?_
  obtain ⟨b1, h⟩ := h
  refine v_iald C 60 (by decide) rfl b1 dX9_groupOf_5 ?_
  refine v_iconst (v := (-1 : Int32)) C dX9_groupOf_6 (by decide) ?_
  refine v_icmp_ne C 14 (by decide) dX9_groupOf_7 (fun q4 => ?_) (fun q4 => ?_)
  · replace h := h.1 q4
    refine v_aload_n C 0 rfl rfl dX9_groupOf_14 ?_
    refine gf_X9_87 C dX9_groupOf_15 ?_
    refine v_aload_n C 0 rfl rfl dX9_groupOf_18 ?_
    refine gf_X9_57 C dX9_groupOf_19 ?_
    refine v_iload_n C 1 rfl rfl dX9_groupOf_22 ?_
    obtain ⟨b2, h⟩ := h
    refine v_iald C 60 (by decide) rfl b2 dX9_groupOf_23 ?_
    obtain ⟨b3, h⟩ := h
    refine v_iald C 70 (by decide) rfl b3 dX9_groupOf_24 ?_
    exact v_iret C hr h dX9_groupOf_25
  · replace h := h.2 q4
    refine v_iconst (v := (-1 : Int32)) C dX9_groupOf_10 (by decide) ?_
    refine v_goto C 25 (by decide) dX9_groupOf_11 ?_
    exact v_iret C hr h dX9_groupOf_25
set_option maxRecDepth 10000 in
set_option maxHeartbeats 4000000 in
theorem so_X9_groupOf {l : Launch} {E : EvT} (x1 : Int32) (μ : MemT) (P : Int32 → MemT → Prop) (h : sp_X9_groupOf x1 μ P) : MCi l E yX9_groupOf cX9_groupOf 2 (some .int) (rmN 0 0) [.ref (eAd E 9), .int x1] μ P := by
  refine mc_entryi (by decide +kernel) (Nat.le_of_ble_eq_true rfl) (fun p e s m below meth c C hr => ?_)
  exact so_X9_groupOf_0 C hr x1 μ h
set_option maxRecDepth 10000 in
set_option maxHeartbeats 4000000 in
theorem so_X9_isBefore_0 {p : Program} {l : Launch} {e : Env} {s : State} {m : MethodId} {args : Array Value} {below : List Frame} {meth : Method} {c : Code} {E : EvT} {P : Int32 → MemT → Prop} (C : Cx p s m args meth c E cX9_isBefore 3 RX9) (hr : meth.sig.returnType = (some .boolean)) (x1 : Int32) (x2 : Int32) (μ : MemT) (h : t_X9_isBefore_0 P x1 x2 μ) : V p l e (rmN 1 21) s m args below meth c E 3 0 0 (MQ below (va_Qi P (wdP E) (eA E s.heap.size)) args s 0 0 (eA E s.heap.size)) 0 [(0, .ref (eAd E 9)), (1, .int x1), (2, .int x2)] [] μ := by
  unfold t_X9_isBefore_0 at h
  refine v_aload_n C 0 rfl rfl dX9_isBefore_0 ?_
  refine gf_X9_30 C dX9_isBefore_1 ?_
  refine v_iload_n C 1 rfl rfl dX9_isBefore_4 ?_
  obtain ⟨b1, h⟩ := h
  refine v_iald C 51 (by decide) rfl b1 dX9_isBefore_5 ?_
  obtain ⟨P2, hs, h⟩ := h
  refine v_callSi C [.int (μ.1 51 x1.toNatClampNeg)] (so_X9_rank (μ.1 51 x1.toNatClampNeg) μ P2 hs) gw_X9_190 rfl rfl dd_X9_rank ⟨by decide, by decide⟩ rfl rfl (Nat.le_of_ble_eq_true rfl) ⟨by decide, by decide⟩ dX9_isBefore_6 (fun r5 μ3 q4 => ?_)
  replace h := h r5 μ3 q4
  refine v_aload_n C 0 rfl rfl dX9_isBefore_9 ?_
  refine gf_X9_30 C dX9_isBefore_10 ?_
  refine v_iload_n C 2 rfl rfl dX9_isBefore_13 ?_
  obtain ⟨b6, h⟩ := h
  refine v_iald C 51 (by decide) rfl b6 dX9_isBefore_14 ?_
  obtain ⟨P7, hs, h⟩ := h
  refine v_callSi C [.int (μ3.1 51 x2.toNatClampNeg)] (so_X9_rank (μ3.1 51 x2.toNatClampNeg) μ3 P7 hs) gw_X9_190 rfl rfl dd_X9_rank ⟨by decide, by decide⟩ rfl rfl (Nat.le_of_ble_eq_true rfl) ⟨by decide, by decide⟩ dX9_isBefore_15 (fun r10 μ8 q9 => ?_)
  replace h := h r10 μ8 q9
  refine v_icmp_eq C 48 (by decide) dX9_isBefore_18 (fun q53 => ?_) (fun q53 => ?_)
  · replace h := h.1 q53
    refine v_aload_n C 0 rfl rfl dX9_isBefore_48 ?_
    refine v_iload_n C 1 rfl rfl dX9_isBefore_49 ?_
    obtain ⟨P11, hs, h⟩ := h
    refine v_callVi C 9 [.int x1] (by decide) rfl rfl rfl (so_X9_groupOf x1 μ8 P11 hs) gw_X9_194 rfl rfl dd_X9_groupOf ⟨by decide, by decide⟩ rfl rfl (Nat.le_of_ble_eq_true rfl) ⟨by decide, by decide⟩ dX9_isBefore_50 (fun r14 μ12 q13 => ?_)
    replace h := h r14 μ12 q13
    refine v_aload_n C 0 rfl rfl dX9_isBefore_53 ?_
    refine v_iload_n C 2 rfl rfl dX9_isBefore_54 ?_
    obtain ⟨P15, hs, h⟩ := h
    refine v_callVi C 9 [.int x2] (by decide) rfl rfl rfl (so_X9_groupOf x2 μ12 P15 hs) gw_X9_194 rfl rfl dd_X9_groupOf ⟨by decide, by decide⟩ rfl rfl (Nat.le_of_ble_eq_true rfl) ⟨by decide, by decide⟩ dX9_isBefore_55 (fun r18 μ16 q17 => ?_)
    replace h := h r18 μ16 q17
    refine v_icmp_eq C 80 (by decide) dX9_isBefore_58 (fun q41 => ?_) (fun q41 => ?_)
    · replace h := h.1 q41
      refine v_aload_n C 0 rfl rfl dX9_isBefore_80 ?_
      refine gf_X9_54 C dX9_isBefore_81 ?_
      refine v_iload_n C 1 rfl rfl dX9_isBefore_84 ?_
      obtain ⟨b19, h⟩ := h
      refine v_iald C 59 (by decide) rfl b19 dX9_isBefore_85 ?_
      refine v_aload_n C 0 rfl rfl dX9_isBefore_86 ?_
      refine gf_X9_54 C dX9_isBefore_87 ?_
      refine v_iload_n C 2 rfl rfl dX9_isBefore_90 ?_
      obtain ⟨b20, h⟩ := h
      refine v_iald C 59 (by decide) rfl b20 dX9_isBefore_91 ?_
      refine v_icmp_eq C 116 (by decide) dX9_isBefore_92 (fun q31 => ?_) (fun q31 => ?_)
      · replace h := h.1 q31
        refine v_aload_n C 0 rfl rfl dX9_isBefore_116 ?_
        refine gf_X9_39 C dX9_isBefore_117 ?_
        refine v_iload_n C 1 rfl rfl dX9_isBefore_120 ?_
        obtain ⟨b21, h⟩ := h
        refine v_lald C 54 (by decide) rfl b21 dX9_isBefore_121 ?_
        refine v_aload_n C 0 rfl rfl dX9_isBefore_122 ?_
        refine gf_X9_39 C dX9_isBefore_123 ?_
        refine v_iload_n C 2 rfl rfl dX9_isBefore_126 ?_
        obtain ⟨b22, h⟩ := h
        refine v_lald C 54 (by decide) rfl b22 dX9_isBefore_127 ?_
        refine v_lcmp_eq C 156 (by decide) dX9_isBefore_128 dX9_isBefore_129 (fun q27 => ?_) (fun q27 => ?_)
        · replace h := h.1 q27
          refine v_iload_n C 1 rfl rfl dX9_isBefore_156 ?_
          refine v_iload_n C 2 rfl rfl dX9_isBefore_157 ?_
          refine v_icmp_ge C 165 (by decide) dX9_isBefore_158 (fun q23 => ?_) (fun q23 => ?_)
          · replace h := h.1 q23
            refine v_iconst (v := (0 : Int32)) C dX9_isBefore_165 (by decide) ?_
            exact v_zret C hr nb0 h dX9_isBefore_166
          · replace h := h.2 q23
            refine v_iconst (v := (1 : Int32)) C dX9_isBefore_161 (by decide) ?_
            refine v_goto C 166 (by decide) dX9_isBefore_162 ?_
            exact v_zret C hr nb1 h dX9_isBefore_166
        · replace h := h.2 q27
          refine v_aload_n C 0 rfl rfl dX9_isBefore_132 ?_
          refine gf_X9_39 C dX9_isBefore_133 ?_
          refine v_iload_n C 1 rfl rfl dX9_isBefore_136 ?_
          obtain ⟨b24, h⟩ := h
          refine v_lald C 54 (by decide) rfl b24 dX9_isBefore_137 ?_
          refine v_aload_n C 0 rfl rfl dX9_isBefore_138 ?_
          refine gf_X9_39 C dX9_isBefore_139 ?_
          refine v_iload_n C 2 rfl rfl dX9_isBefore_142 ?_
          obtain ⟨b25, h⟩ := h
          refine v_lald C 54 (by decide) rfl b25 dX9_isBefore_143 ?_
          refine v_lcmp_ge C 152 (by decide) dX9_isBefore_144 dX9_isBefore_145 (fun q26 => ?_) (fun q26 => ?_)
          · replace h := h.1 q26
            refine v_iconst (v := (0 : Int32)) C dX9_isBefore_152 (by decide) ?_
            refine v_goto C 166 (by decide) dX9_isBefore_153 ?_
            exact v_zret C hr nb0 h dX9_isBefore_166
          · replace h := h.2 q26
            refine v_iconst (v := (1 : Int32)) C dX9_isBefore_148 (by decide) ?_
            refine v_goto C 166 (by decide) dX9_isBefore_149 ?_
            exact v_zret C hr nb1 h dX9_isBefore_166
      · replace h := h.2 q31
        refine v_aload_n C 0 rfl rfl dX9_isBefore_95 ?_
        refine gf_X9_54 C dX9_isBefore_96 ?_
        refine v_iload_n C 1 rfl rfl dX9_isBefore_99 ?_
        obtain ⟨b28, h⟩ := h
        refine v_iald C 59 (by decide) rfl b28 dX9_isBefore_100 ?_
        refine v_aload_n C 0 rfl rfl dX9_isBefore_101 ?_
        refine gf_X9_54 C dX9_isBefore_102 ?_
        refine v_iload_n C 2 rfl rfl dX9_isBefore_105 ?_
        obtain ⟨b29, h⟩ := h
        refine v_iald C 59 (by decide) rfl b29 dX9_isBefore_106 ?_
        refine v_icmp_ge C 114 (by decide) dX9_isBefore_107 (fun q30 => ?_) (fun q30 => ?_)
        · replace h := h.1 q30
          refine v_iconst (v := (0 : Int32)) C dX9_isBefore_114 (by decide) ?_
          exact v_zret C hr nb0 h dX9_isBefore_115
        · replace h := h.2 q30
          refine v_iconst (v := (1 : Int32)) C dX9_isBefore_110 (by decide) ?_
          refine v_goto C 115 (by decide) dX9_isBefore_111 ?_
          exact v_zret C hr nb1 h dX9_isBefore_115
    · replace h := h.2 q41
      refine v_aload_n C 0 rfl rfl dX9_isBefore_61 ?_
      refine v_iload_n C 1 rfl rfl dX9_isBefore_62 ?_
      obtain ⟨P32, hs, h⟩ := h
      refine v_callVi C 9 [.int x1] (by decide) rfl rfl rfl (so_X9_groupOf x1 μ16 P32 hs) gw_X9_194 rfl rfl dd_X9_groupOf ⟨by decide, by decide⟩ rfl rfl (Nat.le_of_ble_eq_true rfl) ⟨by decide, by decide⟩ dX9_isBefore_63 (fun r35 μ33 q34 => ?_)
      replace h := h r35 μ33 q34
      refine v_aload_n C 0 rfl rfl dX9_isBefore_66 ?_
      refine v_iload_n C 2 rfl rfl dX9_isBefore_67 ?_
      obtain ⟨P36, hs, h⟩ := h
      refine v_callVi C 9 [.int x2] (by decide) rfl rfl rfl (so_X9_groupOf x2 μ33 P36 hs) gw_X9_194 rfl rfl dd_X9_groupOf ⟨by decide, by decide⟩ rfl rfl (Nat.le_of_ble_eq_true rfl) ⟨by decide, by decide⟩ dX9_isBefore_68 (fun r39 μ37 q38 => ?_)
      replace h := h r39 μ37 q38
      refine v_icmp_ge C 78 (by decide) dX9_isBefore_71 (fun q40 => ?_) (fun q40 => ?_)
      · replace h := h.1 q40
        refine v_iconst (v := (0 : Int32)) C dX9_isBefore_78 (by decide) ?_
        exact v_zret C hr nb0 h dX9_isBefore_79
      · replace h := h.2 q40
        refine v_iconst (v := (1 : Int32)) C dX9_isBefore_74 (by decide) ?_
        refine v_goto C 79 (by decide) dX9_isBefore_75 ?_
        exact v_zret C hr nb1 h dX9_isBefore_79
  · replace h := h.2 q53
    refine v_aload_n C 0 rfl rfl dX9_isBefore_21 ?_
    refine gf_X9_30 C dX9_isBefore_22 ?_
    refine v_iload_n C 1 rfl rfl dX9_isBefore_25 ?_
    obtain ⟨b42, h⟩ := h
    refine v_iald C 51 (by decide) rfl b42 dX9_isBefore_26 ?_
    obtain ⟨P43, hs, h⟩ := h
    refine v_callSi C [.int (μ8.1 51 x1.toNatClampNeg)] (so_X9_rank (μ8.1 51 x1.toNatClampNeg) μ8 P43 hs) gw_X9_190 rfl rfl dd_X9_rank ⟨by decide, by decide⟩ rfl rfl (Nat.le_of_ble_eq_true rfl) ⟨by decide, by decide⟩ dX9_isBefore_27 (fun r46 μ44 q45 => ?_)
    replace h := h r46 μ44 q45
    refine v_aload_n C 0 rfl rfl dX9_isBefore_30 ?_
    refine gf_X9_30 C dX9_isBefore_31 ?_
    refine v_iload_n C 2 rfl rfl dX9_isBefore_34 ?_
    obtain ⟨b47, h⟩ := h
    refine v_iald C 51 (by decide) rfl b47 dX9_isBefore_35 ?_
    obtain ⟨P48, hs, h⟩ := h
    refine v_callSi C [.int (μ44.1 51 x2.toNatClampNeg)] (so_X9_rank (μ44.1 51 x2.toNatClampNeg) μ44 P48 hs) gw_X9_190 rfl rfl dd_X9_rank ⟨by decide, by decide⟩ rfl rfl (Nat.le_of_ble_eq_true rfl) ⟨by decide, by decide⟩ dX9_isBefore_36 (fun r51 μ49 q50 => ?_)
    replace h := h r51 μ49 q50
    refine v_icmp_ge C 46 (by decide) dX9_isBefore_39 (fun q52 => ?_) (fun q52 => ?_)
    · replace h := h.1 q52
      refine v_iconst (v := (0 : Int32)) C dX9_isBefore_46 (by decide) ?_
      exact v_zret C hr nb0 h dX9_isBefore_47
    · replace h := h.2 q52
      refine v_iconst (v := (1 : Int32)) C dX9_isBefore_42 (by decide) ?_
      refine v_goto C 47 (by decide) dX9_isBefore_43 ?_
      exact v_zret C hr nb1 h dX9_isBefore_47
set_option maxRecDepth 10000 in
set_option maxHeartbeats 4000000 in
theorem so_X9_isBefore {l : Launch} {E : EvT} (x1 : Int32) (x2 : Int32) (μ : MemT) (P : Int32 → MemT → Prop) (h : sp_X9_isBefore x1 x2 μ P) : MCi l E yX9_isBefore cX9_isBefore 3 (some .boolean) (rmN 1 21) [.ref (eAd E 9), .int x1, .int x2] μ P := by
  refine mc_entryi (by decide +kernel) (Nat.le_of_ble_eq_true rfl) (fun p e s m below meth c C hr => ?_)
  exact so_X9_isBefore_0 C hr x1 x2 μ h
set_option maxRecDepth 10000 in
set_option maxHeartbeats 4000000 in
theorem so_X9_put_0 {p : Program} {l : Launch} {e : Env} {s : State} {m : MethodId} {args : Array Value} {below : List Frame} {meth : Method} {c : Code} {E : EvT} {P : MemT → Prop} (C : Cx p s m args meth c E cX9_put 3 RX9) (hr : meth.sig.returnType = none) (x1 : Int32) (x2 : Int32) (μ : MemT) (h : t_X9_put_0 P x1 x2 μ) : V p l e (rmN 0 0) s m args below meth c E 3 0 0 (MQ below (va_Qv P (wdP E) (eA E s.heap.size)) args s 0 0 (eA E s.heap.size)) 0 [(0, .ref (eAd E 9)), (1, .int x1), (2, .int x2)] [] μ := by
  unfold t_X9_put_0 at h
  refine v_aload_n C 0 rfl rfl dX9_put_0 ?_
  refine gf_X9_93 C dX9_put_1 ?_
  refine v_aload_n C 0 rfl rfl dX9_put_4 ?_
  refine gf_X9_197 C dX9_put_5 ?_
  refine v_iload_n C 1 rfl rfl dX9_put_8 ?_
  obtain ⟨b1, h⟩ := h
  refine v_iast C 72 (by decide) rfl b1 dX9_put_9 ?_
  refine v_nmM (fun μ2 e_μ2 => ?_)
  replace h := h μ2 e_μ2
  refine v_aload_n C 0 rfl rfl dX9_put_10 ?_
  refine gf_X9_96 C dX9_put_11 ?_
  refine v_aload_n C 0 rfl rfl dX9_put_14 ?_
  refine gf_X9_197 C dX9_put_15 ?_
  refine v_iload_n C 2 rfl rfl dX9_put_18 ?_
  obtain ⟨b3, h⟩ := h
  refine v_iast C 73 (by decide) rfl b3 dX9_put_19 ?_
  refine v_nmM (fun μ4 e_μ4 => ?_)
  replace h := h μ4 e_μ4
  refine v_aload_n C 0 rfl rfl dX9_put_20 ?_
  refine v_dup C rfl dX9_put_21 ?_
  refine gf_X9_197 C dX9_put_22 ?_
  refine v_iconst (v := (1 : Int32)) C dX9_put_25 (by decide) ?_
  refine v_iadd C dX9_put_26 ?_
  refine pf_X9_197 C dX9_put_27 ?_
  refine v_nmM (fun μ5 e_μ5 => ?_)
  replace h := h μ5 e_μ5
  exact v_vret C hr h dX9_put_30
set_option maxRecDepth 10000 in
set_option maxHeartbeats 4000000 in
theorem so_X9_put {l : Launch} {E : EvT} (x1 : Int32) (x2 : Int32) (μ : MemT) (P : MemT → Prop) (h : sp_X9_put x1 x2 μ P) : MCv l E yX9_put cX9_put 3 none (rmN 0 0) [.ref (eAd E 9), .int x1, .int x2] μ P := by
  refine mc_entryv (by decide +kernel) (Nat.le_of_ble_eq_true rfl) (fun p e s m below meth c C hr => ?_)
  exact so_X9_put_0 C hr x1 x2 μ h
set_option maxRecDepth 10000 in
set_option maxHeartbeats 4000000 in
theorem so_X9_join_145 {p : Program} {l : Launch} {e : Env} {s : State} {m : MethodId} {args : Array Value} {below : List Frame} {meth : Method} {c : Code} {E : EvT} {P : MemT → Prop} (C : Cx p s m args meth c E cX9_join 4 RX9) (hr : meth.sig.returnType = none) (x1 : Int32) (x2 : Int32) (x3 : Int32) (y1 : Int32) (μ : MemT) (h : t_X9_join_145 P x1 x2 x3 y1 μ) : V p l e (rmN 1 22) s m args below meth c E 4 0 0 (MQ below (va_Qv P (wdP E) (eA E s.heap.size)) args s 0 0 (eA E s.heap.size)) 145 [(0, .ref (eAd E 9)), (1, .int x1), (2, .int x2), (3, .int x3)] [.int y1, .ref (eAd E 9)] μ := by
  unfold t_X9_join_145 at h
  refine v_iconst (v := (-1 : Int32)) C dX9_join_145 (by decide) ?_
  obtain ⟨P1, hs, h⟩ := h
  refine v_callVv C 9 [.int y1, .int (-1 : Int32)] (by decide) rfl rfl rfl (so_X9_put y1 (-1 : Int32) μ P1 hs) gw_X9_200 rfl rfl dd_X9_put ⟨by decide, by decide⟩ rfl rfl (Nat.le_of_ble_eq_true rfl) ⟨by decide, by decide⟩ dX9_join_146 (fun μ2 q3 => ?_)
  replace h := h μ2 q3
  exact v_vret C hr h dX9_join_149
set_option maxRecDepth 10000 in
set_option maxHeartbeats 4000000 in
theorem so_X9_join_133 {p : Program} {l : Launch} {e : Env} {s : State} {m : MethodId} {args : Array Value} {below : List Frame} {meth : Method} {c : Code} {E : EvT} {P : MemT → Prop} (C : Cx p s m args meth c E cX9_join 4 RX9) (hr : meth.sig.returnType = none) (x1 : Int32) (x2 : Int32) (x3 : Int32) (μ : MemT) (h : t_X9_join_133 P x1 x2 x3 μ) : V p l e (rmN 1 22) s m args below meth c E 4 0 0 (MQ below (va_Qv P (wdP E) (eA E s.heap.size)) args s 0 0 (eA E s.heap.size)) 133 [(0, .ref (eAd E 9)), (1, .int x1), (2, .int x2), (3, .int x3)] [] μ := by
  unfold t_X9_join_133 at h
  refine v_aload_n C 0 rfl rfl dX9_join_133 ?_
  refine v_iload_n C 3 rfl rfl dX9_join_134 ?_
  refine v_if_eq C 143 (by decide) dX9_join_135 (fun q1 => ?_) (fun q1 => ?_)
  · replace h := h.1 q1
    refine v_bipush (v := (10 : Int32)) C dX9_join_143 (by decide) ?_
    exact so_X9_join_145 C hr _ _ _ _ _ h
  · replace h := h.2 q1
    refine v_bipush (v := (32 : Int32)) C dX9_join_138 (by decide) ?_
    refine v_goto C 145 (by decide) dX9_join_140 ?_
    exact so_X9_join_145 C hr _ _ _ _ _ h
set_option maxRecDepth 10000 in
set_option maxHeartbeats 4000000 in
theorem so_X9_join_48 {p : Program} {l : Launch} {e : Env} {s : State} {m : MethodId} {args : Array Value} {below : List Frame} {meth : Method} {c : Code} {E : EvT} {P : MemT → Prop} (C : Cx p s m args meth c E cX9_join 4 RX9) (hr : meth.sig.returnType = none) (x1 : Int32) (x2 : Int32) (y0 : Int32) (μ : MemT) (h : t_X9_join_48 P x1 x2 y0 μ) : V p l e (rmN 1 22) s m args below meth c E 4 0 0 (MQ below (va_Qv P (wdP E) (eA E s.heap.size)) args s 0 0 (eA E s.heap.size)) 48 [(0, .ref (eAd E 9)), (1, .int x1), (2, .int x2)] [.int y0] μ := by
  unfold t_X9_join_48 at h
  refine v_istore_n C [(3, .int y0), (0, .ref (eAd E 9)), (1, .int x1), (2, .int x2)] rfl (by decide) rfl dX9_join_48 ?_
  refine v_aload_n C 1 rfl rfl dX9_join_49 ?_
  refine gf_X9_60 C dX9_join_50 ?_
  refine v_iload_n C 2 rfl rfl dX9_join_53 ?_
  obtain ⟨b1, h⟩ := h
  refine v_iald C 61 (by decide) rfl b1 dX9_join_54 ?_
  refine v_iload_n C 3 rfl rfl dX9_join_55 ?_
  refine v_icmp_ne C 78 (by decide) dX9_join_56 (fun q15 => ?_) (fun q15 => ?_)
  · replace h := h.1 q15
    refine v_iload_n C 0 rfl rfl dX9_join_78 ?_
    refine v_if_eq C 133 (by decide) dX9_join_79 (fun q9 => ?_) (fun q9 => ?_)
    · replace h := h.1 q9
      refine v_sub C [1, 2, 3, 0] rfl ?_
      exact so_X9_join_133 C hr _ _ _ _ h
    · replace h := h.2 q9
      refine v_aload_n C 1 rfl rfl dX9_join_82 ?_
      refine gf_X9_93 C dX9_join_83 ?_
      refine v_aload_n C 1 rfl rfl dX9_join_86 ?_
      refine gf_X9_197 C dX9_join_87 ?_
      refine v_iconst (v := (1 : Int32)) C dX9_join_90 (by decide) ?_
      refine v_isub C dX9_join_91 ?_
      obtain ⟨b2, h⟩ := h
      refine v_iald C 72 (by decide) rfl b2 dX9_join_92 ?_
      refine v_bipush (v := (45 : Int32)) C dX9_join_93 (by decide) ?_
      refine v_icmp_ne C 133 (by decide) dX9_join_95 (fun q8 => ?_) (fun q8 => ?_)
      · replace h := h.1 q8
        refine v_sub C [1, 2, 3, 0] rfl ?_
        exact so_X9_join_133 C hr _ _ _ _ h
      · replace h := h.2 q8
        refine v_aload_n C 1 rfl rfl dX9_join_98 ?_
        refine gf_X9_45 C dX9_join_99 ?_
        refine v_iload_n C 3 rfl rfl dX9_join_102 ?_
        obtain ⟨b3, h⟩ := h
        refine v_iald C 56 (by decide) rfl b3 dX9_join_103 ?_
        refine v_bipush (v := (97 : Int32)) C dX9_join_104 (by decide) ?_
        refine v_icmp_lt C 133 (by decide) dX9_join_106 (fun q7 => ?_) (fun q7 => ?_)
        · replace h := h.1 q7
          refine v_sub C [1, 2, 3, 0] rfl ?_
          exact so_X9_join_133 C hr _ _ _ _ h
        · replace h := h.2 q7
          refine v_aload_n C 1 rfl rfl dX9_join_109 ?_
          refine gf_X9_45 C dX9_join_110 ?_
          refine v_iload_n C 3 rfl rfl dX9_join_113 ?_
          obtain ⟨b4, h⟩ := h
          refine v_iald C 56 (by decide) rfl b4 dX9_join_114 ?_
          refine v_bipush (v := (122 : Int32)) C dX9_join_115 (by decide) ?_
          refine v_icmp_gt C 133 (by decide) dX9_join_117 (fun q6 => ?_) (fun q6 => ?_)
          · replace h := h.1 q6
            refine v_sub C [1, 2, 3, 0] rfl ?_
            exact so_X9_join_133 C hr _ _ _ _ h
          · replace h := h.2 q6
            refine v_aload_n C 1 rfl rfl dX9_join_120 ?_
            refine v_dup C rfl dX9_join_121 ?_
            refine gf_X9_197 C dX9_join_122 ?_
            refine v_iconst (v := (1 : Int32)) C dX9_join_125 (by decide) ?_
            refine v_isub C dX9_join_126 ?_
            refine pf_X9_197 C dX9_join_127 ?_
            refine v_nmM (fun μ5 e_μ5 => ?_)
            replace h := h μ5 e_μ5
            refine v_goto C 149 (by decide) dX9_join_130 ?_
            exact v_vret C hr h dX9_join_149
  · replace h := h.2 q15
    refine v_aload_n C 1 rfl rfl dX9_join_59 ?_
    refine gf_X9_63 C dX9_join_60 ?_
    refine v_iload_n C 2 rfl rfl dX9_join_63 ?_
    obtain ⟨b10, h⟩ := h
    refine v_zald C 62 (by decide) rfl b10 dX9_join_64 ?_
    refine v_if_eq C 149 (by decide) dX9_join_65 (fun q14 => ?_) (fun q14 => ?_)
    · replace h := h.1 q14
      exact v_vret C hr h dX9_join_149
    · replace h := h.2 q14
      refine v_aload_n C 1 rfl rfl dX9_join_68 ?_
      refine v_bipush (v := (32 : Int32)) C dX9_join_69 (by decide) ?_
      refine v_iconst (v := (-1 : Int32)) C dX9_join_71 (by decide) ?_
      obtain ⟨P11, hs, h⟩ := h
      refine v_callVv C 9 [.int (32 : Int32), .int (-1 : Int32)] (by decide) rfl rfl rfl (so_X9_put (32 : Int32) (-1 : Int32) μ P11 hs) gw_X9_200 rfl rfl dd_X9_put ⟨by decide, by decide⟩ rfl rfl (Nat.le_of_ble_eq_true rfl) ⟨by decide, by decide⟩ dX9_join_72 (fun μ12 q13 => ?_)
      replace h := h μ12 q13
      refine v_goto C 149 (by decide) dX9_join_75 ?_
      exact v_vret C hr h dX9_join_149
set_option maxRecDepth 10000 in
set_option maxHeartbeats 4000000 in
theorem so_X9_join_47 {p : Program} {l : Launch} {e : Env} {s : State} {m : MethodId} {args : Array Value} {below : List Frame} {meth : Method} {c : Code} {E : EvT} {P : MemT → Prop} (C : Cx p s m args meth c E cX9_join 4 RX9) (hr : meth.sig.returnType = none) (x1 : Int32) (x2 : Int32) (μ : MemT) (h : t_X9_join_47 P x1 x2 μ) : V p l e (rmN 1 22) s m args below meth c E 4 0 0 (MQ below (va_Qv P (wdP E) (eA E s.heap.size)) args s 0 0 (eA E s.heap.size)) 47 [(0, .ref (eAd E 9)), (1, .int x1), (2, .int x2)] [] μ := by
  unfold t_X9_join_47 at h
  refine v_iconst (v := (0 : Int32)) C dX9_join_47 (by decide) ?_
  exact so_X9_join_48 C hr _ _ _ _ h
set_option maxRecDepth 10000 in
set_option maxHeartbeats 4000000 in
theorem so_X9_join_0 {p : Program} {l : Launch} {e : Env} {s : State} {m : MethodId} {args : Array Value} {below : List Frame} {meth : Method} {c : Code} {E : EvT} {P : MemT → Prop} (C : Cx p s m args meth c E cX9_join 4 RX9) (hr : meth.sig.returnType = none) (x1 : Int32) (x2 : Int32) (μ : MemT) (h : t_X9_join_0 P x1 x2 μ) : V p l e (rmN 1 22) s m args below meth c E 4 0 0 (MQ below (va_Qv P (wdP E) (eA E s.heap.size)) args s 0 0 (eA E s.heap.size)) 0 [(0, .ref (eAd E 9)), (1, .int x1), (2, .int x2)] [] μ := by
  unfold t_X9_join_0 at h
  refine v_aload_n C 0 rfl rfl dX9_join_0 ?_
  refine v_iload_n C 1 rfl rfl dX9_join_1 ?_
  obtain ⟨P1, hs, h⟩ := h
  refine v_callVi C 9 [.int x1] (by decide) rfl rfl rfl (so_X9_groupOf x1 μ P1 hs) gw_X9_194 rfl rfl dd_X9_groupOf ⟨by decide, by decide⟩ rfl rfl (Nat.le_of_ble_eq_true rfl) ⟨by decide, by decide⟩ dX9_join_2 (fun r4 μ2 q3 => ?_)
  replace h := h r4 μ2 q3
  refine v_aload_n C 0 rfl rfl dX9_join_5 ?_
  refine v_iload_n C 2 rfl rfl dX9_join_6 ?_
  obtain ⟨P5, hs, h⟩ := h
  refine v_callVi C 9 [.int x2] (by decide) rfl rfl rfl (so_X9_groupOf x2 μ2 P5 hs) gw_X9_194 rfl rfl dd_X9_groupOf ⟨by decide, by decide⟩ rfl rfl (Nat.le_of_ble_eq_true rfl) ⟨by decide, by decide⟩ dX9_join_7 (fun r8 μ6 q7 => ?_)
  replace h := h r8 μ6 q7
  refine v_icmp_ne C 47 (by decide) dX9_join_10 (fun q15 => ?_) (fun q15 => ?_)
  · replace h := h.1 q15
    exact so_X9_join_47 C hr _ _ _ h
  · replace h := h.2 q15
    refine v_aload_n C 0 rfl rfl dX9_join_13 ?_
    refine gf_X9_57 C dX9_join_14 ?_
    refine v_iload_n C 1 rfl rfl dX9_join_17 ?_
    obtain ⟨b9, h⟩ := h
    refine v_iald C 60 (by decide) rfl b9 dX9_join_18 ?_
    refine v_aload_n C 0 rfl rfl dX9_join_19 ?_
    refine gf_X9_57 C dX9_join_20 ?_
    refine v_iload_n C 2 rfl rfl dX9_join_23 ?_
    obtain ⟨b10, h⟩ := h
    refine v_iald C 60 (by decide) rfl b10 dX9_join_24 ?_
    refine v_icmp_eq C 47 (by decide) dX9_join_25 (fun q14 => ?_) (fun q14 => ?_)
    · replace h := h.1 q14
      exact so_X9_join_47 C hr _ _ _ h
    · replace h := h.2 q14
      refine v_aload_n C 0 rfl rfl dX9_join_28 ?_
      refine gf_X9_30 C dX9_join_29 ?_
      refine v_iload_n C 1 rfl rfl dX9_join_32 ?_
      obtain ⟨b11, h⟩ := h
      refine v_iald C 51 (by decide) rfl b11 dX9_join_33 ?_
      refine v_aload_n C 0 rfl rfl dX9_join_34 ?_
      refine gf_X9_30 C dX9_join_35 ?_
      refine v_iload_n C 2 rfl rfl dX9_join_38 ?_
      obtain ⟨b12, h⟩ := h
      refine v_iald C 51 (by decide) rfl b12 dX9_join_39 ?_
      refine v_icmp_ne C 47 (by decide) dX9_join_40 (fun q13 => ?_) (fun q13 => ?_)
      · replace h := h.1 q13
        exact so_X9_join_47 C hr _ _ _ h
      · replace h := h.2 q13
        refine v_iconst (v := (1 : Int32)) C dX9_join_43 (by decide) ?_
        refine v_goto C 48 (by decide) dX9_join_44 ?_
        exact so_X9_join_48 C hr _ _ _ _ h
set_option maxRecDepth 10000 in
set_option maxHeartbeats 4000000 in
theorem so_X9_join {l : Launch} {E : EvT} (x1 : Int32) (x2 : Int32) (μ : MemT) (P : MemT → Prop) (h : sp_X9_join x1 x2 μ P) : MCv l E yX9_join cX9_join 4 none (rmN 1 22) [.ref (eAd E 9), .int x1, .int x2] μ P := by
  refine mc_entryv (by decide +kernel) (Nat.le_of_ble_eq_true rfl) (fun p e s m below meth c C hr => ?_)
  exact so_X9_join_0 C hr x1 x2 μ h
set_option maxRecDepth 10000 in
set_option maxHeartbeats 4000000 in
theorem so_X9_look_174 {p : Program} {l : Launch} {e : Env} {s : State} {m : MethodId} {args : Array Value} {below : List Frame} {meth : Method} {c : Code} {E : EvT} {P : MemT → Prop} (C : Cx p s m args meth c E cX9_look 3 RX9) (hr : meth.sig.returnType = none) {K15 : Int32 → MemT → Prop} (hK15 : ∀ (x1 : Int32) (μ : MemT), K15 x1 μ → V p l e (rmN 4 106) s m args below meth c E 3 0 0 (MQ below (va_Qv P (wdP E) (eA E s.heap.size)) args s 0 0 (eA E s.heap.size)) 15 [(0, .ref (eAd E 9)), (1, .int x1)] [] μ) {K49 : Int32 → MemT → Prop} (hK49 : ∀ (x1 : Int32) (μ : MemT), K49 x1 μ → V p l e (rmN 4 106) s m args below meth c E 3 0 0 (MQ below (va_Qv P (wdP E) (eA E s.heap.size)) args s 0 0 (eA E s.heap.size)) 49 [(0, .ref (eAd E 9)), (1, .int x1)] [] μ) {K72 : Int32 → Int32 → MemT → Prop} (hK72 : ∀ (x1 : Int32) (x2 : Int32) (μ : MemT), K72 x1 x2 μ → V p l e (rmN 4 106) s m args below meth c E 3 0 0 (MQ below (va_Qv P (wdP E) (eA E s.heap.size)) args s 0 0 (eA E s.heap.size)) 72 [(0, .ref (eAd E 9)), (1, .int x1), (2, .int x2)] [] μ) {K142 : Int32 → MemT → Prop} (hK142 : ∀ (x1 : Int32) (μ : MemT), K142 x1 μ → V p l e (rmN 4 106) s m args below meth c E 3 0 0 (MQ below (va_Qv P (wdP E) (eA E s.heap.size)) args s 0 0 (eA E s.heap.size)) 142 [(0, .ref (eAd E 9)), (1, .int x1)] [] μ) (x1 : Int32) (x2 : Int32) (μ : MemT) (h : t_X9_look_174 K15 K49 K72 K142 P x1 x2 μ) : V p l e (rmN 4 106) s m args below meth c E 3 0 0 (MQ below (va_Qv P (wdP E) (eA E s.heap.size)) args s 0 0 (eA E s.heap.size)) 174 [(0, .ref (eAd E 9)), (1, .int x1), (2, .int x2)] [] μ := by
  unfold t_X9_look_174 at h
  refine v_aload_n C 0 rfl rfl dX9_look_174 ?_
  refine v_aload_n C 0 rfl rfl dX9_look_175 ?_
  refine gf_X9_45 C dX9_look_176 ?_
  refine v_iload_n C 2 rfl rfl dX9_look_179 ?_
  obtain ⟨b1, h⟩ := h
  refine v_iald C 56 (by decide) rfl b1 dX9_look_180 ?_
  refine v_iload_n C 2 rfl rfl dX9_look_181 ?_
  obtain ⟨P2, hs, h⟩ := h
  refine v_callVv C 9 [.int (μ.1 56 x2.toNatClampNeg), .int x2] (by decide) rfl rfl rfl (so_X9_put (μ.1 56 x2.toNatClampNeg) x2 μ P2 hs) gw_X9_200 rfl rfl dd_X9_put ⟨by decide, by decide⟩ rfl rfl (Nat.le_of_ble_eq_true rfl) ⟨by decide, by decide⟩ dX9_look_182 (fun μ3 q4 => ?_)
  replace h := h μ3 q4
  refine v_aload_n C 0 rfl rfl dX9_look_185 ?_
  refine gf_X9_48 C dX9_look_186 ?_
  refine v_iload_n C 2 rfl rfl dX9_look_189 ?_
  obtain ⟨b5, h⟩ := h
  refine v_iald C 57 (by decide) rfl b5 dX9_look_190 ?_
  refine v_if_le C 205 (by decide) dX9_look_191 (fun q10 => ?_) (fun q10 => ?_)
  · replace h := h.1 q10
    refine v_iinc (v := (x1 + 1)) C 1 [(1, .int (x1 + 1)), (0, .ref (eAd E 9)), (2, .int x2)] rfl rfl (by decide) rfl dX9_look_205 ?_
    refine v_goto C 142 (by decide) dX9_look_208 ?_
    refine v_sub C [1, 0] rfl ?_
    exact hK142 _ _ h
  · replace h := h.2 q10
    refine v_aload_n C 0 rfl rfl dX9_look_194 ?_
    refine v_aload_n C 0 rfl rfl dX9_look_195 ?_
    refine gf_X9_48 C dX9_look_196 ?_
    refine v_iload_n C 2 rfl rfl dX9_look_199 ?_
    obtain ⟨b6, h⟩ := h
    refine v_iald C 57 (by decide) rfl b6 dX9_look_200 ?_
    refine v_iload_n C 2 rfl rfl dX9_look_201 ?_
    obtain ⟨P7, hs, h⟩ := h
    refine v_callVv C 9 [.int (μ3.1 57 x2.toNatClampNeg), .int x2] (by decide) rfl rfl rfl (so_X9_put (μ3.1 57 x2.toNatClampNeg) x2 μ3 P7 hs) gw_X9_200 rfl rfl dd_X9_put ⟨by decide, by decide⟩ rfl rfl (Nat.le_of_ble_eq_true rfl) ⟨by decide, by decide⟩ dX9_look_202 (fun μ8 q9 => ?_)
    replace h := h μ8 q9
    refine v_iinc (v := (x1 + 1)) C 1 [(1, .int (x1 + 1)), (0, .ref (eAd E 9)), (2, .int x2)] rfl rfl (by decide) rfl dX9_look_205 ?_
    refine v_goto C 142 (by decide) dX9_look_208 ?_
    refine v_sub C [1, 0] rfl ?_
    exact hK142 _ _ h
set_option maxRecDepth 10000 in
set_option maxHeartbeats 4000000 in
theorem so_X9_look_112 {p : Program} {l : Launch} {e : Env} {s : State} {m : MethodId} {args : Array Value} {below : List Frame} {meth : Method} {c : Code} {E : EvT} {P : MemT → Prop} (C : Cx p s m args meth c E cX9_look 3 RX9) (hr : meth.sig.returnType = none) {K15 : Int32 → MemT → Prop} (hK15 : ∀ (x1 : Int32) (μ : MemT), K15 x1 μ → V p l e (rmN 4 106) s m args below meth c E 3 0 0 (MQ below (va_Qv P (wdP E) (eA E s.heap.size)) args s 0 0 (eA E s.heap.size)) 15 [(0, .ref (eAd E 9)), (1, .int x1)] [] μ) {K49 : Int32 → MemT → Prop} (hK49 : ∀ (x1 : Int32) (μ : MemT), K49 x1 μ → V p l e (rmN 4 106) s m args below meth c E 3 0 0 (MQ below (va_Qv P (wdP E) (eA E s.heap.size)) args s 0 0 (eA E s.heap.size)) 49 [(0, .ref (eAd E 9)), (1, .int x1)] [] μ) {K72 : Int32 → Int32 → MemT → Prop} (hK72 : ∀ (x1 : Int32) (x2 : Int32) (μ : MemT), K72 x1 x2 μ → V p l e (rmN 4 106) s m args below meth c E 3 0 0 (MQ below (va_Qv P (wdP E) (eA E s.heap.size)) args s 0 0 (eA E s.heap.size)) 72 [(0, .ref (eAd E 9)), (1, .int x1), (2, .int x2)] [] μ) {K142 : Int32 → MemT → Prop} (hK142 : ∀ (x1 : Int32) (μ : MemT), K142 x1 μ → V p l e (rmN 4 106) s m args below meth c E 3 0 0 (MQ below (va_Qv P (wdP E) (eA E s.heap.size)) args s 0 0 (eA E s.heap.size)) 142 [(0, .ref (eAd E 9)), (1, .int x1)] [] μ) (x1 : Int32) (x2 : Int32) (μ : MemT) (h : t_X9_look_112 K15 K49 K72 K142 P x1 x2 μ) : V p l e (rmN 4 106) s m args below meth c E 3 0 0 (MQ below (va_Qv P (wdP E) (eA E s.heap.size)) args s 0 0 (eA E s.heap.size)) 112 [(0, .ref (eAd E 9)), (1, .int x1), (2, .int x2)] [] μ := by
  unfold t_X9_look_112 at h
  refine v_aload_n C 0 rfl rfl dX9_look_112 ?_
  refine gf_X9_90 C dX9_look_113 ?_
  refine v_iload_n C 2 rfl rfl dX9_look_116 ?_
  refine v_iload_n C 1 rfl rfl dX9_look_117 ?_
  obtain ⟨b1, h⟩ := h
  refine v_iast C 71 (by decide) rfl b1 dX9_look_118 ?_
  refine v_nmM (fun μ2 e_μ2 => ?_)
  replace h := h μ2 e_μ2
  refine v_aload_n C 0 rfl rfl dX9_look_119 ?_
  refine v_dup C rfl dX9_look_120 ?_
  refine gf_X9_213 C dX9_look_121 ?_
  refine v_iconst (v := (1 : Int32)) C dX9_look_124 (by decide) ?_
  refine v_iadd C dX9_look_125 ?_
  refine pf_X9_213 C dX9_look_126 ?_
  refine v_nmM (fun μ3 e_μ3 => ?_)
  replace h := h μ3 e_μ3
  refine v_iinc (v := (x1 + 1)) C 1 [(1, .int (x1 + 1)), (0, .ref (eAd E 9)), (2, .int x2)] rfl rfl (by decide) rfl dX9_look_129 ?_
  refine v_goto C 49 (by decide) dX9_look_132 ?_
  refine v_sub C [1, 0] rfl ?_
  exact hK49 _ _ h
set_option maxRecDepth 10000 in
set_option maxHeartbeats 4000000 in
theorem so_X9_look_142 {p : Program} {l : Launch} {e : Env} {s : State} {m : MethodId} {args : Array Value} {below : List Frame} {meth : Method} {c : Code} {E : EvT} {P : MemT → Prop} (C : Cx p s m args meth c E cX9_look 3 RX9) (hr : meth.sig.returnType = none) {K15 : Int32 → MemT → Prop} (hK15 : ∀ (x1 : Int32) (μ : MemT), K15 x1 μ → V p l e (rmN 4 106) s m args below meth c E 3 0 0 (MQ below (va_Qv P (wdP E) (eA E s.heap.size)) args s 0 0 (eA E s.heap.size)) 15 [(0, .ref (eAd E 9)), (1, .int x1)] [] μ) {K49 : Int32 → MemT → Prop} (hK49 : ∀ (x1 : Int32) (μ : MemT), K49 x1 μ → V p l e (rmN 4 106) s m args below meth c E 3 0 0 (MQ below (va_Qv P (wdP E) (eA E s.heap.size)) args s 0 0 (eA E s.heap.size)) 49 [(0, .ref (eAd E 9)), (1, .int x1)] [] μ) {K72 : Int32 → Int32 → MemT → Prop} (hK72 : ∀ (x1 : Int32) (x2 : Int32) (μ : MemT), K72 x1 x2 μ → V p l e (rmN 4 106) s m args below meth c E 3 0 0 (MQ below (va_Qv P (wdP E) (eA E s.heap.size)) args s 0 0 (eA E s.heap.size)) 72 [(0, .ref (eAd E 9)), (1, .int x1), (2, .int x2)] [] μ) {K142 : Int32 → MemT → Prop} (hK142 : ∀ (x1 : Int32) (μ : MemT), K142 x1 μ → V p l e (rmN 4 106) s m args below meth c E 3 0 0 (MQ below (va_Qv P (wdP E) (eA E s.heap.size)) args s 0 0 (eA E s.heap.size)) 142 [(0, .ref (eAd E 9)), (1, .int x1)] [] μ) (x1 : Int32) (μ : MemT) (h : t_X9_look_142 K15 K49 K72 K142 P x1 μ) : V p l e (rmN 4 106) s m args below meth c E 3 0 0 (MQ below (va_Qv P (wdP E) (eA E s.heap.size)) args s 0 0 (eA E s.heap.size)) 142 [(0, .ref (eAd E 9)), (1, .int x1)] [] μ := by
  unfold t_X9_look_142 at h
  refine v_iload_n C 1 rfl rfl dX9_look_142 ?_
  refine v_aload_n C 0 rfl rfl dX9_look_143 ?_
  refine gf_X9_213 C dX9_look_144 ?_
  refine v_icmp_ge C 211 (by decide) dX9_look_147 (fun q7 => ?_) (fun q7 => ?_)
  · replace h := h.1 q7
    exact v_vret C hr h dX9_look_211
  · replace h := h.2 q7
    refine v_aload_n C 0 rfl rfl dX9_look_150 ?_
    refine gf_X9_90 C dX9_look_151 ?_
    refine v_iload_n C 1 rfl rfl dX9_look_154 ?_
    obtain ⟨b1, h⟩ := h
    refine v_iald C 71 (by decide) rfl b1 dX9_look_155 ?_
    refine v_istore_n C [(2, .int (μ.1 71 x1.toNatClampNeg)), (0, .ref (eAd E 9)), (1, .int x1)] rfl (by decide) rfl dX9_look_156 ?_
    refine v_iload_n C 2 rfl rfl dX9_look_157 ?_
    refine v_if_le C 174 (by decide) dX9_look_158 (fun q6 => ?_) (fun q6 => ?_)
    · replace h := h.1 q6
      refine v_sub C [1, 2, 0] rfl ?_
      exact so_X9_look_174 C hr hK15 hK49 hK72 hK142 _ _ _ h
    · replace h := h.2 q6
      refine v_aload_n C 1 rfl rfl dX9_look_161 ?_
      refine v_aload_n C 1 rfl rfl dX9_look_162 ?_
      refine gf_X9_90 C dX9_look_163 ?_
      refine v_iload_n C 2 rfl rfl dX9_look_166 ?_
      refine v_iconst (v := (1 : Int32)) C dX9_look_167 (by decide) ?_
      refine v_isub C dX9_look_168 ?_
      obtain ⟨b2, h⟩ := h
      refine v_iald C 71 (by decide) rfl b2 dX9_look_169 ?_
      refine v_iload_n C 0 rfl rfl dX9_look_170 ?_
      obtain ⟨P3, hs, h⟩ := h
      refine v_callVv C 9 [.int (μ.1 71 (x1 - (1 : Int32)).toNatClampNeg), .int (μ.1 71 x1.toNatClampNeg)] (by decide) rfl rfl rfl (so_X9_join (μ.1 71 (x1 - (1 : Int32)).toNatClampNeg) (μ.1 71 x1.toNatClampNeg) μ P3 hs) gw_X9_219 rfl rfl dd_X9_join ⟨by decide, by decide⟩ rfl rfl (Nat.le_of_ble_eq_true rfl) ⟨by decide, by decide⟩ dX9_look_171 (fun μ4 q5 => ?_)
      replace h := h μ4 q5
      refine v_sub C [1, 2, 0] rfl ?_
      exact so_X9_look_174 C hr hK15 hK49 hK72 hK142 _ _ _ h
set_option maxRecDepth 10000 in
set_option maxHeartbeats 4000000 in
theorem so_X9_look_72 {p : Program} {l : Launch} {e : Env} {s : State} {m : MethodId} {args : Array Value} {below : List Frame} {meth : Method} {c : Code} {E : EvT} {P : MemT → Prop} (C : Cx p s m args meth c E cX9_look 3 RX9) (hr : meth.sig.returnType = none) {K15 : Int32 → MemT → Prop} (hK15 : ∀ (x1 : Int32) (μ : MemT), K15 x1 μ → V p l e (rmN 4 106) s m args below meth c E 3 0 0 (MQ below (va_Qv P (wdP E) (eA E s.heap.size)) args s 0 0 (eA E s.heap.size)) 15 [(0, .ref (eAd E 9)), (1, .int x1)] [] μ) {K49 : Int32 → MemT → Prop} (hK49 : ∀ (x1 : Int32) (μ : MemT), K49 x1 μ → V p l e (rmN 4 106) s m args below meth c E 3 0 0 (MQ below (va_Qv P (wdP E) (eA E s.heap.size)) args s 0 0 (eA E s.heap.size)) 49 [(0, .ref (eAd E 9)), (1, .int x1)] [] μ) {K72 : Int32 → Int32 → MemT → Prop} (hK72 : ∀ (x1 : Int32) (x2 : Int32) (μ : MemT), K72 x1 x2 μ → V p l e (rmN 4 106) s m args below meth c E 3 0 0 (MQ below (va_Qv P (wdP E) (eA E s.heap.size)) args s 0 0 (eA E s.heap.size)) 72 [(0, .ref (eAd E 9)), (1, .int x1), (2, .int x2)] [] μ) {K142 : Int32 → MemT → Prop} (hK142 : ∀ (x1 : Int32) (μ : MemT), K142 x1 μ → V p l e (rmN 4 106) s m args below meth c E 3 0 0 (MQ below (va_Qv P (wdP E) (eA E s.heap.size)) args s 0 0 (eA E s.heap.size)) 142 [(0, .ref (eAd E 9)), (1, .int x1)] [] μ) (x1 : Int32) (x2 : Int32) (μ : MemT) (h : t_X9_look_72 K15 K49 K72 K142 P x1 x2 μ) : V p l e (rmN 4 106) s m args below meth c E 3 0 0 (MQ below (va_Qv P (wdP E) (eA E s.heap.size)) args s 0 0 (eA E s.heap.size)) 72 [(0, .ref (eAd E 9)), (1, .int x1), (2, .int x2)] [] μ := by
  unfold t_X9_look_72 at h
  refine v_iload_n C 2 rfl rfl dX9_look_72 ?_
  refine v_if_le C 112 (by decide) dX9_look_73 (fun q10 => ?_) (fun q10 => ?_)
  · replace h := h.1 q10
    exact so_X9_look_112 C hr hK15 hK49 hK72 hK142 _ _ _ h
  · replace h := h.2 q10
    refine v_aload_n C 0 rfl rfl dX9_look_76 ?_
    refine v_iload_n C 1 rfl rfl dX9_look_77 ?_
    refine v_aload_n C 0 rfl rfl dX9_look_78 ?_
    refine gf_X9_90 C dX9_look_79 ?_
    refine v_iload_n C 2 rfl rfl dX9_look_82 ?_
    refine v_iconst (v := (1 : Int32)) C dX9_look_83 (by decide) ?_
    refine v_isub C dX9_look_84 ?_
    obtain ⟨b1, h⟩ := h
    refine v_iald C 71 (by decide) rfl b1 dX9_look_85 ?_
    obtain ⟨P2, hs, h⟩ := h
    refine v_callVi C 9 [.int x1, .int (μ.1 71 (x2 - (1 : Int32)).toNatClampNeg)] (by decide) rfl rfl rfl (so_X9_isBefore x1 (μ.1 71 (x2 - (1 : Int32)).toNatClampNeg) μ P2 hs) gw_X9_216 rfl rfl dd_X9_isBefore ⟨by decide, by decide⟩ rfl rfl (Nat.le_of_ble_eq_true rfl) ⟨by decide, by decide⟩ dX9_look_86 (fun r5 μ3 q4 => ?_)
    replace h := h r5 μ3 q4
    refine v_if_eq C 112 (by decide) dX9_look_89 (fun q9 => ?_) (fun q9 => ?_)
    · replace h := h.1 q9
      exact so_X9_look_112 C hr hK15 hK49 hK72 hK142 _ _ _ h
    · replace h := h.2 q9
      refine v_aload_n C 0 rfl rfl dX9_look_92 ?_
      refine gf_X9_90 C dX9_look_93 ?_
      refine v_iload_n C 2 rfl rfl dX9_look_96 ?_
      refine v_aload_n C 0 rfl rfl dX9_look_97 ?_
      refine gf_X9_90 C dX9_look_98 ?_
      refine v_iload_n C 2 rfl rfl dX9_look_101 ?_
      refine v_iconst (v := (1 : Int32)) C dX9_look_102 (by decide) ?_
      refine v_isub C dX9_look_103 ?_
      obtain ⟨b6, h⟩ := h
      refine v_iald C 71 (by decide) rfl b6 dX9_look_104 ?_
      obtain ⟨b7, h⟩ := h
      refine v_iast C 71 (by decide) rfl b7 dX9_look_105 ?_
      refine v_nmM (fun μ8 e_μ8 => ?_)
      replace h := h μ8 e_μ8
      refine v_iinc (v := (x2 + (-1))) C 2 [(2, .int (x2 + (-1))), (0, .ref (eAd E 9)), (1, .int x1)] rfl (by rw [iM1]) (by decide) rfl dX9_look_106 ?_
      refine v_goto C 72 (by decide) dX9_look_109 ?_
      refine v_sub C [1, 2, 0] rfl ?_
      exact hK72 _ _ _ h
set_option maxRecDepth 10000 in
set_option maxHeartbeats 4000000 in
theorem so_X9_look_49 {p : Program} {l : Launch} {e : Env} {s : State} {m : MethodId} {args : Array Value} {below : List Frame} {meth : Method} {c : Code} {E : EvT} {P : MemT → Prop} (C : Cx p s m args meth c E cX9_look 3 RX9) (hr : meth.sig.returnType = none) {K15 : Int32 → MemT → Prop} (hK15 : ∀ (x1 : Int32) (μ : MemT), K15 x1 μ → V p l e (rmN 4 106) s m args below meth c E 3 0 0 (MQ below (va_Qv P (wdP E) (eA E s.heap.size)) args s 0 0 (eA E s.heap.size)) 15 [(0, .ref (eAd E 9)), (1, .int x1)] [] μ) {K49 : Int32 → MemT → Prop} (hK49 : ∀ (x1 : Int32) (μ : MemT), K49 x1 μ → V p l e (rmN 4 106) s m args below meth c E 3 0 0 (MQ below (va_Qv P (wdP E) (eA E s.heap.size)) args s 0 0 (eA E s.heap.size)) 49 [(0, .ref (eAd E 9)), (1, .int x1)] [] μ) {K72 : Int32 → Int32 → MemT → Prop} (hK72 : ∀ (x1 : Int32) (x2 : Int32) (μ : MemT), K72 x1 x2 μ → V p l e (rmN 4 106) s m args below meth c E 3 0 0 (MQ below (va_Qv P (wdP E) (eA E s.heap.size)) args s 0 0 (eA E s.heap.size)) 72 [(0, .ref (eAd E 9)), (1, .int x1), (2, .int x2)] [] μ) {K142 : Int32 → MemT → Prop} (hK142 : ∀ (x1 : Int32) (μ : MemT), K142 x1 μ → V p l e (rmN 4 106) s m args below meth c E 3 0 0 (MQ below (va_Qv P (wdP E) (eA E s.heap.size)) args s 0 0 (eA E s.heap.size)) 142 [(0, .ref (eAd E 9)), (1, .int x1)] [] μ) (x1 : Int32) (μ : MemT) (h : t_X9_look_49 K15 K49 K72 K142 P x1 μ) : V p l e (rmN 4 106) s m args below meth c E 3 0 0 (MQ below (va_Qv P (wdP E) (eA E s.heap.size)) args s 0 0 (eA E s.heap.size)) 49 [(0, .ref (eAd E 9)), (1, .int x1)] [] μ := by
  unfold t_X9_look_49 at h
  refine v_iload_n C 1 rfl rfl dX9_look_49 ?_
  refine v_aload_n C 0 rfl rfl dX9_look_50 ?_
  refine gf_X9_105 C dX9_look_51 ?_
  refine v_icmp_ge C 135 (by decide) dX9_look_54 (fun q4 => ?_) (fun q4 => ?_)
  · replace h := h.1 q4
    refine v_aload_n C 0 rfl rfl dX9_look_135 ?_
    refine v_iconst (v := (0 : Int32)) C dX9_look_136 (by decide) ?_
    refine pf_X9_197 C dX9_look_137 ?_
    refine v_nmM (fun μ1 e_μ1 => ?_)
    replace h := h μ1 e_μ1
    refine v_iconst (v := (0 : Int32)) C dX9_look_140 (by decide) ?_
    refine v_istore_n C [(1, .int (0 : Int32)), (0, .ref (eAd E 9))] rfl (by decide) rfl dX9_look_141 ?_
    refine v_sub C [1, 0] rfl ?_
    exact hK142 _ _ h
  · replace h := h.2 q4
    refine v_aload_n C 0 rfl rfl dX9_look_57 ?_
    refine gf_X9_51 C dX9_look_58 ?_
    refine v_iload_n C 1 rfl rfl dX9_look_61 ?_
    obtain ⟨b2, h⟩ := h
    refine v_iald C 58 (by decide) rfl b2 dX9_look_62 ?_
    refine v_iconst (v := (-1 : Int32)) C dX9_look_63 (by decide) ?_
    refine v_icmp_ne C 129 (by decide) dX9_look_64 (fun q3 => ?_) (fun q3 => ?_)
    · replace h := h.1 q3
      refine v_iinc (v := (x1 + 1)) C 1 [(1, .int (x1 + 1)), (0, .ref (eAd E 9))] rfl rfl (by decide) rfl dX9_look_129 ?_
      refine v_goto C 49 (by decide) dX9_look_132 ?_
      refine v_sub C [1, 0] rfl ?_
      exact hK49 _ _ h
    · replace h := h.2 q3
      refine v_aload_n C 0 rfl rfl dX9_look_67 ?_
      refine gf_X9_213 C dX9_look_68 ?_
      refine v_istore_n C [(2, .int (μ.2.2.1 14)), (0, .ref (eAd E 9)), (1, .int x1)] rfl (by decide) rfl dX9_look_71 ?_
      refine v_sub C [1, 2, 0] rfl ?_
      exact hK72 _ _ _ h
set_option maxRecDepth 10000 in
set_option maxHeartbeats 4000000 in
theorem so_X9_look_15 {p : Program} {l : Launch} {e : Env} {s : State} {m : MethodId} {args : Array Value} {below : List Frame} {meth : Method} {c : Code} {E : EvT} {P : MemT → Prop} (C : Cx p s m args meth c E cX9_look 3 RX9) (hr : meth.sig.returnType = none) {K15 : Int32 → MemT → Prop} (hK15 : ∀ (x1 : Int32) (μ : MemT), K15 x1 μ → V p l e (rmN 4 106) s m args below meth c E 3 0 0 (MQ below (va_Qv P (wdP E) (eA E s.heap.size)) args s 0 0 (eA E s.heap.size)) 15 [(0, .ref (eAd E 9)), (1, .int x1)] [] μ) {K49 : Int32 → MemT → Prop} (hK49 : ∀ (x1 : Int32) (μ : MemT), K49 x1 μ → V p l e (rmN 4 106) s m args below meth c E 3 0 0 (MQ below (va_Qv P (wdP E) (eA E s.heap.size)) args s 0 0 (eA E s.heap.size)) 49 [(0, .ref (eAd E 9)), (1, .int x1)] [] μ) {K72 : Int32 → Int32 → MemT → Prop} (hK72 : ∀ (x1 : Int32) (x2 : Int32) (μ : MemT), K72 x1 x2 μ → V p l e (rmN 4 106) s m args below meth c E 3 0 0 (MQ below (va_Qv P (wdP E) (eA E s.heap.size)) args s 0 0 (eA E s.heap.size)) 72 [(0, .ref (eAd E 9)), (1, .int x1), (2, .int x2)] [] μ) {K142 : Int32 → MemT → Prop} (hK142 : ∀ (x1 : Int32) (μ : MemT), K142 x1 μ → V p l e (rmN 4 106) s m args below meth c E 3 0 0 (MQ below (va_Qv P (wdP E) (eA E s.heap.size)) args s 0 0 (eA E s.heap.size)) 142 [(0, .ref (eAd E 9)), (1, .int x1)] [] μ) (x1 : Int32) (μ : MemT) (h : t_X9_look_15 K15 K49 K72 K142 P x1 μ) : V p l e (rmN 4 106) s m args below meth c E 3 0 0 (MQ below (va_Qv P (wdP E) (eA E s.heap.size)) args s 0 0 (eA E s.heap.size)) 15 [(0, .ref (eAd E 9)), (1, .int x1)] [] μ := by
  unfold t_X9_look_15 at h
  refine v_iload_n C 1 rfl rfl dX9_look_15 ?_
  refine v_aload_n C 0 rfl rfl dX9_look_16 ?_
  refine gf_X9_105 C dX9_look_17 ?_
  refine v_icmp_ge C 34 (by decide) dX9_look_20 (fun q11 => ?_) (fun q11 => ?_)
  · replace h := h.1 q11
    refine v_aload_n C 0 rfl rfl dX9_look_34 ?_
    obtain ⟨P1, hs, h⟩ := h
    refine v_callVv C 9 [] (by decide) rfl rfl rfl (so_X9_findLines μ P1 hs) gw_X9_207 rfl rfl dd_X9_findLines ⟨by decide, by decide⟩ rfl rfl (Nat.le_of_ble_eq_true rfl) ⟨by decide, by decide⟩ dX9_look_35 (fun μ2 q3 => ?_)
    replace h := h μ2 q3
    refine v_aload_n C 0 rfl rfl dX9_look_38 ?_
    obtain ⟨P4, hs, h⟩ := h
    refine v_callVv C 9 [] (by decide) rfl rfl rfl (so_X9_findGroups μ2 P4 hs) gw_X9_210 rfl rfl dd_X9_findGroups ⟨by decide, by decide⟩ rfl rfl (Nat.le_of_ble_eq_true rfl) ⟨by decide, by decide⟩ dX9_look_39 (fun μ5 q6 => ?_)
    replace h := h μ5 q6
    refine v_aload_n C 0 rfl rfl dX9_look_42 ?_
    refine v_iconst (v := (0 : Int32)) C dX9_look_43 (by decide) ?_
    refine pf_X9_213 C dX9_look_44 ?_
    refine v_nmM (fun μ7 e_μ7 => ?_)
    replace h := h μ7 e_μ7
    refine v_iconst (v := (0 : Int32)) C dX9_look_47 (by decide) ?_
    refine v_istore_n C [(1, .int (0 : Int32)), (0, .ref (eAd E 9))] rfl (by decide) rfl dX9_look_48 ?_
    refine v_sub C [1, 0] rfl ?_
    exact hK49 _ _ h
  · replace h := h.2 q11
    refine v_aload_n C 0 rfl rfl dX9_look_23 ?_
    refine v_iload_n C 1 rfl rfl dX9_look_24 ?_
    obtain ⟨P8, hs, h⟩ := h
    refine v_callVv C 9 [.int x1] (by decide) rfl rfl rfl (so_X9_spell x1 μ P8 hs) gw_X9_204 rfl rfl dd_X9_spell ⟨by decide, by decide⟩ rfl rfl (Nat.le_of_ble_eq_true rfl) ⟨by decide, by decide⟩ dX9_look_25 (fun μ9 q10 => ?_)
    replace h := h μ9 q10
    refine v_iinc (v := (x1 + 1)) C 1 [(1, .int (x1 + 1)), (0, .ref (eAd E 9))] rfl rfl (by decide) rfl dX9_look_28 ?_
    refine v_goto C 15 (by decide) dX9_look_31 ?_
    refine v_sub C [1, 0] rfl ?_
    exact hK15 _ _ h
set_option maxRecDepth 10000 in
set_option maxHeartbeats 4000000 in
theorem so_X9_look_0 {p : Program} {l : Launch} {e : Env} {s : State} {m : MethodId} {args : Array Value} {below : List Frame} {meth : Method} {c : Code} {E : EvT} {P : MemT → Prop} (C : Cx p s m args meth c E cX9_look 3 RX9) (hr : meth.sig.returnType = none) {K15 : Int32 → MemT → Prop} (hK15 : ∀ (x1 : Int32) (μ : MemT), K15 x1 μ → V p l e (rmN 4 106) s m args below meth c E 3 0 0 (MQ below (va_Qv P (wdP E) (eA E s.heap.size)) args s 0 0 (eA E s.heap.size)) 15 [(0, .ref (eAd E 9)), (1, .int x1)] [] μ) {K49 : Int32 → MemT → Prop} (hK49 : ∀ (x1 : Int32) (μ : MemT), K49 x1 μ → V p l e (rmN 4 106) s m args below meth c E 3 0 0 (MQ below (va_Qv P (wdP E) (eA E s.heap.size)) args s 0 0 (eA E s.heap.size)) 49 [(0, .ref (eAd E 9)), (1, .int x1)] [] μ) {K72 : Int32 → Int32 → MemT → Prop} (hK72 : ∀ (x1 : Int32) (x2 : Int32) (μ : MemT), K72 x1 x2 μ → V p l e (rmN 4 106) s m args below meth c E 3 0 0 (MQ below (va_Qv P (wdP E) (eA E s.heap.size)) args s 0 0 (eA E s.heap.size)) 72 [(0, .ref (eAd E 9)), (1, .int x1), (2, .int x2)] [] μ) {K142 : Int32 → MemT → Prop} (hK142 : ∀ (x1 : Int32) (μ : MemT), K142 x1 μ → V p l e (rmN 4 106) s m args below meth c E 3 0 0 (MQ below (va_Qv P (wdP E) (eA E s.heap.size)) args s 0 0 (eA E s.heap.size)) 142 [(0, .ref (eAd E 9)), (1, .int x1)] [] μ) (μ : MemT) (h : t_X9_look_0 K15 K49 K72 K142 P  μ) : V p l e (rmN 4 106) s m args below meth c E 3 0 0 (MQ below (va_Qv P (wdP E) (eA E s.heap.size)) args s 0 0 (eA E s.heap.size)) 0 [(0, .ref (eAd E 9))] [] μ := by
  unfold t_X9_look_0 at h
  refine v_aload_n C 0 rfl rfl dX9_look_0 ?_
  refine gf_X9_128 C dX9_look_1 ?_
  refine v_if_eq C 8 (by decide) dX9_look_4 (fun q2 => ?_) (fun q2 => ?_)
  · replace h := h.1 q2
    refine v_aload_n C 0 rfl rfl dX9_look_8 ?_
    refine v_iconst (v := (1 : Int32)) C dX9_look_9 (by decide) ?_
    refine pf_X9_128 C (by decide) dX9_look_10 ?_
    refine v_nmM (fun μ1 e_μ1 => ?_)
    replace h := h μ1 e_μ1
    refine v_iconst (v := (0 : Int32)) C dX9_look_13 (by decide) ?_
    refine v_istore_n C [(1, .int (0 : Int32)), (0, .ref (eAd E 9))] rfl (by decide) rfl dX9_look_14 ?_
    refine v_sub C [1, 0] rfl ?_
    exact hK15 _ _ h
  · replace h := h.2 q2
    exact v_vret C hr h dX9_look_7
set_option maxRecDepth 10000 in
set_option maxHeartbeats 4000000 in
theorem so_X9_look {l : Launch} {E : EvT} (μ : MemT) (P : MemT → Prop) (h : sp_X9_look  μ P) : MCv l E yX9_look cX9_look 3 none (rmN 4 106) [.ref (eAd E 9)] μ P := by
  refine mc_entryv (by decide +kernel) (Nat.le_of_ble_eq_true rfl) (fun p e s m below meth c C hr => ?_)
  have h0 := h (fun x1_ μ => V p l e (rmN 4 106) s m ([.ref (eAd E 9)] : List Value).toArray below meth c E 3 0 0 (MQ below (va_Qv P (wdP E) (eA E s.heap.size)) ([.ref (eAd E 9)] : List Value).toArray s 0 0 (eA E s.heap.size)) 15 [(0, .ref (eAd E 9)), (1, .int x1_)] [] μ) (fun x1_ μ => V p l e (rmN 4 106) s m ([.ref (eAd E 9)] : List Value).toArray below meth c E 3 0 0 (MQ below (va_Qv P (wdP E) (eA E s.heap.size)) ([.ref (eAd E 9)] : List Value).toArray s 0 0 (eA E s.heap.size)) 49 [(0, .ref (eAd E 9)), (1, .int x1_)] [] μ) (fun x1_ x2_ μ => V p l e (rmN 4 106) s m ([.ref (eAd E 9)] : List Value).toArray below meth c E 3 0 0 (MQ below (va_Qv P (wdP E) (eA E s.heap.size)) ([.ref (eAd E 9)] : List Value).toArray s 0 0 (eA E s.heap.size)) 72 [(0, .ref (eAd E 9)), (1, .int x1_), (2, .int x2_)] [] μ) (fun x1_ μ => V p l e (rmN 4 106) s m ([.ref (eAd E 9)] : List Value).toArray below meth c E 3 0 0 (MQ below (va_Qv P (wdP E) (eA E s.heap.size)) ([.ref (eAd E 9)] : List Value).toArray s 0 0 (eA E s.heap.size)) 142 [(0, .ref (eAd E 9)), (1, .int x1_)] [] μ) (fun x1 μ ht => so_X9_look_15 C hr (fun x1 μ hk => hk) (fun x1 μ hk => hk) (fun x1 x2 μ hk => hk) (fun x1 μ hk => hk) x1 μ ht) (fun x1 μ ht => so_X9_look_49 C hr (fun x1 μ hk => hk) (fun x1 μ hk => hk) (fun x1 x2 μ hk => hk) (fun x1 μ hk => hk) x1 μ ht) (fun x1 x2 μ ht => so_X9_look_72 C hr (fun x1 μ hk => hk) (fun x1 μ hk => hk) (fun x1 x2 μ hk => hk) (fun x1 μ hk => hk) x1 x2 μ ht) (fun x1 μ ht => so_X9_look_142 C hr (fun x1 μ hk => hk) (fun x1 μ hk => hk) (fun x1 x2 μ hk => hk) (fun x1 μ hk => hk) x1 μ ht) 
  exact so_X9_look_0 C hr (fun x1 μ hk => hk) (fun x1 μ hk => hk) (fun x1 x2 μ hk => hk) (fun x1 μ hk => hk)  μ h0
set_option maxRecDepth 10000 in
set_option maxHeartbeats 4000000 in
theorem so_X9_length_0 {p : Program} {l : Launch} {e : Env} {s : State} {m : MethodId} {args : Array Value} {below : List Frame} {meth : Method} {c : Code} {E : EvT} {P : Int32 → MemT → Prop} (C : Cx p s m args meth c E cX9_length 1 RX9) (hr : meth.sig.returnType = (some .int)) (μ : MemT) (h : t_X9_length_0 P  μ) : V p l e (rmN 5 128) s m args below meth c E 1 0 0 (MQ below (va_Qi P (wdP E) (eA E s.heap.size)) args s 0 0 (eA E s.heap.size)) 0 [(0, .ref (eAd E 9))] [] μ := by
  unfold t_X9_length_0 at h
  refine v_aload_n C 0 rfl rfl dX9_length_0 ?_
  refine v_iconst (v := (0 : Int32)) C dX9_length_1 (by decide) ?_
  refine pf_X9_109 C dX9_length_2 ?_
  refine v_nmM (fun μ1 e_μ1 => ?_)
  replace h := h μ1 e_μ1
  refine v_aload_n C 0 rfl rfl dX9_length_5 ?_
  obtain ⟨P2, hs, h⟩ := h
  refine v_callVv C 9 [] (by decide) rfl rfl rfl (so_X9_look μ1 P2 hs) gw_X9_222 rfl rfl dd_X9_look ⟨by decide, by decide⟩ rfl rfl (Nat.le_of_ble_eq_true rfl) ⟨by decide, by decide⟩ dX9_length_6 (fun μ3 q4 => ?_)
  replace h := h μ3 q4
  refine v_aload_n C 0 rfl rfl dX9_length_9 ?_
  refine gf_X9_197 C dX9_length_10 ?_
  exact v_iret C hr h dX9_length_13
set_option maxRecDepth 10000 in
set_option maxHeartbeats 4000000 in
theorem so_X9_length {l : Launch} {E : EvT} (μ : MemT) (P : Int32 → MemT → Prop) (h : sp_X9_length  μ P) : MCi l E yX9_length cX9_length 1 (some .int) (rmN 5 128) [.ref (eAd E 9)] μ P := by
  refine mc_entryi (by decide +kernel) (Nat.le_of_ble_eq_true rfl) (fun p e s m below meth c C hr => ?_)
  exact so_X9_length_0 C hr  μ h
set_option maxRecDepth 10000 in
set_option maxHeartbeats 4000000 in
theorem so_X9_letter_22 {p : Program} {l : Launch} {e : Env} {s : State} {m : MethodId} {args : Array Value} {below : List Frame} {meth : Method} {c : Code} {E : EvT} {P : Int32 → MemT → Prop} (C : Cx p s m args meth c E cX9_letter 2 RX9) (hr : meth.sig.returnType = (some .int)) (x1 : Int32) (y1 : Int32) (μ : MemT) (h : t_X9_letter_22 P x1 y1 μ) : V p l e (rmN 5 128) s m args below meth c E 2 0 0 (MQ below (va_Qi P (wdP E) (eA E s.heap.size)) args s 0 0 (eA E s.heap.size)) 22 [(0, .ref (eAd E 9)), (1, .int x1)] [.int y1, .ref (eAd E 9)] μ := by
  unfold t_X9_letter_22 at h
  refine v_iconst (v := (0 : Int32)) C dX9_letter_22 (by decide) ?_
  obtain ⟨P1, hs, h⟩ := h
  refine v_callVi C 9 [.int y1, .int (0 : Int32)] (by decide) rfl rfl rfl (so_X9_refused y1 (0 : Int32) μ P1 hs) gw_X9_124 rfl rfl dd_X9_refused ⟨by decide, by decide⟩ rfl rfl (Nat.le_of_ble_eq_true rfl) ⟨by decide, by decide⟩ dX9_letter_23 (fun r4 μ2 q3 => ?_)
  replace h := h r4 μ2 q3
  refine v_if_eq C 33 (by decide) dX9_letter_26 (fun q6 => ?_) (fun q6 => ?_)
  · replace h := h.1 q6
    refine v_aload_n C 0 rfl rfl dX9_letter_33 ?_
    refine gf_X9_93 C dX9_letter_34 ?_
    refine v_iload_n C 1 rfl rfl dX9_letter_37 ?_
    obtain ⟨b5, h⟩ := h
    refine v_iald C 72 (by decide) rfl b5 dX9_letter_38 ?_
    exact v_iret C hr h dX9_letter_39
  · replace h := h.2 q6
    refine v_iconst (v := (0 : Int32)) C dX9_letter_29 (by decide) ?_
    refine v_goto C 39 (by decide) dX9_letter_30 ?_
    exact v_iret C hr h dX9_letter_39
set_option maxRecDepth 10000 in
set_option maxHeartbeats 4000000 in
theorem so_X9_letter_17 {p : Program} {l : Launch} {e : Env} {s : State} {m : MethodId} {args : Array Value} {below : List Frame} {meth : Method} {c : Code} {E : EvT} {P : Int32 → MemT → Prop} (C : Cx p s m args meth c E cX9_letter 2 RX9) (hr : meth.sig.returnType = (some .int)) (x1 : Int32) (μ : MemT) (h : t_X9_letter_17 P x1 μ) : V p l e (rmN 5 128) s m args below meth c E 2 0 0 (MQ below (va_Qi P (wdP E) (eA E s.heap.size)) args s 0 0 (eA E s.heap.size)) 17 [(0, .ref (eAd E 9)), (1, .int x1)] [.ref (eAd E 9)] μ := by
  unfold t_X9_letter_17 at h
  refine v_iconst (v := (1 : Int32)) C dX9_letter_17 (by decide) ?_
  refine v_goto C 22 (by decide) dX9_letter_18 ?_
  exact so_X9_letter_22 C hr _ _ _ h
set_option maxRecDepth 10000 in
set_option maxHeartbeats 4000000 in
theorem so_X9_letter_0 {p : Program} {l : Launch} {e : Env} {s : State} {m : MethodId} {args : Array Value} {below : List Frame} {meth : Method} {c : Code} {E : EvT} {P : Int32 → MemT → Prop} (C : Cx p s m args meth c E cX9_letter 2 RX9) (hr : meth.sig.returnType = (some .int)) (x1 : Int32) (μ : MemT) (h : t_X9_letter_0 P x1 μ) : V p l e (rmN 5 128) s m args below meth c E 2 0 0 (MQ below (va_Qi P (wdP E) (eA E s.heap.size)) args s 0 0 (eA E s.heap.size)) 0 [(0, .ref (eAd E 9)), (1, .int x1)] [] μ := by
  unfold t_X9_letter_0 at h
  refine v_aload_n C 0 rfl rfl dX9_letter_0 ?_
  obtain ⟨P1, hs, h⟩ := h
  refine v_callVv C 9 [] (by decide) rfl rfl rfl (so_X9_look μ P1 hs) gw_X9_222 rfl rfl dd_X9_look ⟨by decide, by decide⟩ rfl rfl (Nat.le_of_ble_eq_true rfl) ⟨by decide, by decide⟩ dX9_letter_1 (fun μ2 q3 => ?_)
  replace h := h μ2 q3
  refine v_aload_n C 0 rfl rfl dX9_letter_4 ?_
  refine v_iload_n C 1 rfl rfl dX9_letter_5 ?_
  refine v_if_lt C 17 (by decide) dX9_letter_6 (fun q5 => ?_) (fun q5 => ?_)
  · replace h := h.1 q5
    exact so_X9_letter_17 C hr _ _ h
  · replace h := h.2 q5
    refine v_iload_n C 1 rfl rfl dX9_letter_9 ?_
    refine v_aload_n C 0 rfl rfl dX9_letter_10 ?_
    refine gf_X9_197 C dX9_letter_11 ?_
    refine v_icmp_lt C 21 (by decide) dX9_letter_14 (fun q4 => ?_) (fun q4 => ?_)
    · replace h := h.1 q4
      refine v_iconst (v := (0 : Int32)) C dX9_letter_21 (by decide) ?_
      exact so_X9_letter_22 C hr _ _ _ h
    · replace h := h.2 q4
      exact so_X9_letter_17 C hr _ _ h
set_option maxRecDepth 10000 in
set_option maxHeartbeats 4000000 in
theorem so_X9_letter {l : Launch} {E : EvT} (x1 : Int32) (μ : MemT) (P : Int32 → MemT → Prop) (h : sp_X9_letter x1 μ P) : MCi l E yX9_letter cX9_letter 2 (some .int) (rmN 5 128) [.ref (eAd E 9), .int x1] μ P := by
  refine mc_entryi (by decide +kernel) (Nat.le_of_ble_eq_true rfl) (fun p e s m below meth c C hr => ?_)
  exact so_X9_letter_0 C hr x1 μ h
set_option maxRecDepth 10000 in
set_option maxHeartbeats 4000000 in
theorem so_X9_from_22 {p : Program} {l : Launch} {e : Env} {s : State} {m : MethodId} {args : Array Value} {below : List Frame} {meth : Method} {c : Code} {E : EvT} {P : Int32 → MemT → Prop} (C : Cx p s m args meth c E cX9_from 2 RX9) (hr : meth.sig.returnType = (some .int)) (x1 : Int32) (y1 : Int32) (μ : MemT) (h : t_X9_from_22 P x1 y1 μ) : V p l e (rmN 5 128) s m args below meth c E 2 0 0 (MQ below (va_Qi P (wdP E) (eA E s.heap.size)) args s 0 0 (eA E s.heap.size)) 22 [(0, .ref (eAd E 9)), (1, .int x1)] [.int y1, .ref (eAd E 9)] μ := by
  unfold t_X9_from_22 at h
  refine v_iconst (v := (0 : Int32)) C dX9_from_22 (by decide) ?_
  obtain ⟨P1, hs, h⟩ := h
  refine v_callVi C 9 [.int y1, .int (0 : Int32)] (by decide) rfl rfl rfl (so_X9_refused y1 (0 : Int32) μ P1 hs) gw_X9_124 rfl rfl dd_X9_refused ⟨by decide, by decide⟩ rfl rfl (Nat.le_of_ble_eq_true rfl) ⟨by decide, by decide⟩ dX9_from_23 (fun r4 μ2 q3 => ?_)
  replace h := h r4 μ2 q3
  refine v_if_eq C 33 (by decide) dX9_from_26 (fun q6 => ?_) (fun q6 => ?_)
  · replace h := h.1 q6
    refine v_aload_n C 0 rfl rfl dX9_from_33 ?_
    refine gf_X9_96 C dX9_from_34 ?_
    refine v_iload_n C 1 rfl rfl dX9_from_37 ?_
    obtain ⟨b5, h⟩ := h
    refine v_iald C 73 (by decide) rfl b5 dX9_from_38 ?_
    exact v_iret C hr h dX9_from_39
  · replace h := h.2 q6
    refine v_iconst (v := (0 : Int32)) C dX9_from_29 (by decide) ?_
    refine v_goto C 39 (by decide) dX9_from_30 ?_
    exact v_iret C hr h dX9_from_39
set_option maxRecDepth 10000 in
set_option maxHeartbeats 4000000 in
theorem so_X9_from_17 {p : Program} {l : Launch} {e : Env} {s : State} {m : MethodId} {args : Array Value} {below : List Frame} {meth : Method} {c : Code} {E : EvT} {P : Int32 → MemT → Prop} (C : Cx p s m args meth c E cX9_from 2 RX9) (hr : meth.sig.returnType = (some .int)) (x1 : Int32) (μ : MemT) (h : t_X9_from_17 P x1 μ) : V p l e (rmN 5 128) s m args below meth c E 2 0 0 (MQ below (va_Qi P (wdP E) (eA E s.heap.size)) args s 0 0 (eA E s.heap.size)) 17 [(0, .ref (eAd E 9)), (1, .int x1)] [.ref (eAd E 9)] μ := by
  unfold t_X9_from_17 at h
  refine v_iconst (v := (1 : Int32)) C dX9_from_17 (by decide) ?_
  refine v_goto C 22 (by decide) dX9_from_18 ?_
  exact so_X9_from_22 C hr _ _ _ h
set_option maxRecDepth 10000 in
set_option maxHeartbeats 4000000 in
theorem so_X9_from_0 {p : Program} {l : Launch} {e : Env} {s : State} {m : MethodId} {args : Array Value} {below : List Frame} {meth : Method} {c : Code} {E : EvT} {P : Int32 → MemT → Prop} (C : Cx p s m args meth c E cX9_from 2 RX9) (hr : meth.sig.returnType = (some .int)) (x1 : Int32) (μ : MemT) (h : t_X9_from_0 P x1 μ) : V p l e (rmN 5 128) s m args below meth c E 2 0 0 (MQ below (va_Qi P (wdP E) (eA E s.heap.size)) args s 0 0 (eA E s.heap.size)) 0 [(0, .ref (eAd E 9)), (1, .int x1)] [] μ := by
  unfold t_X9_from_0 at h
  refine v_aload_n C 0 rfl rfl dX9_from_0 ?_
  obtain ⟨P1, hs, h⟩ := h
  refine v_callVv C 9 [] (by decide) rfl rfl rfl (so_X9_look μ P1 hs) gw_X9_222 rfl rfl dd_X9_look ⟨by decide, by decide⟩ rfl rfl (Nat.le_of_ble_eq_true rfl) ⟨by decide, by decide⟩ dX9_from_1 (fun μ2 q3 => ?_)
  replace h := h μ2 q3
  refine v_aload_n C 0 rfl rfl dX9_from_4 ?_
  refine v_iload_n C 1 rfl rfl dX9_from_5 ?_
  refine v_if_lt C 17 (by decide) dX9_from_6 (fun q5 => ?_) (fun q5 => ?_)
  · replace h := h.1 q5
    exact so_X9_from_17 C hr _ _ h
  · replace h := h.2 q5
    refine v_iload_n C 1 rfl rfl dX9_from_9 ?_
    refine v_aload_n C 0 rfl rfl dX9_from_10 ?_
    refine gf_X9_197 C dX9_from_11 ?_
    refine v_icmp_lt C 21 (by decide) dX9_from_14 (fun q4 => ?_) (fun q4 => ?_)
    · replace h := h.1 q4
      refine v_iconst (v := (0 : Int32)) C dX9_from_21 (by decide) ?_
      exact so_X9_from_22 C hr _ _ _ h
    · replace h := h.2 q4
      exact so_X9_from_17 C hr _ _ h
set_option maxRecDepth 10000 in
set_option maxHeartbeats 4000000 in
theorem so_X9_from {l : Launch} {E : EvT} (x1 : Int32) (μ : MemT) (P : Int32 → MemT → Prop) (h : sp_X9_from x1 μ P) : MCi l E yX9_from cX9_from 2 (some .int) (rmN 5 128) [.ref (eAd E 9), .int x1] μ P := by
  refine mc_entryi (by decide +kernel) (Nat.le_of_ble_eq_true rfl) (fun p e s m below meth c C hr => ?_)
  exact so_X9_from_0 C hr x1 μ h
set_option maxRecDepth 10000 in
set_option maxHeartbeats 4000000 in
theorem so_X9_line_0 {p : Program} {l : Launch} {e : Env} {s : State} {m : MethodId} {args : Array Value} {below : List Frame} {meth : Method} {c : Code} {E : EvT} {P : Int32 → MemT → Prop} (C : Cx p s m args meth c E cX9_line 2 RX9) (hr : meth.sig.returnType = (some .int)) (x1 : Int32) (μ : MemT) (h : t_X9_line_0 P x1 μ) : V p l e (rmN 5 128) s m args below meth c E 2 0 0 (MQ below (va_Qi P (wdP E) (eA E s.heap.size)) args s 0 0 (eA E s.heap.size)) 0 [(0, .ref (eAd E 9)), (1, .int x1)] [] μ := by
  unfold t_X9_line_0 at h
  refine v_aload_n C 0 rfl rfl dX9_line_0 ?_
  obtain ⟨P1, hs, h⟩ := h
  refine v_callVv C 9 [] (by decide) rfl rfl rfl (so_X9_look μ P1 hs) gw_X9_222 rfl rfl dd_X9_look ⟨by decide, by decide⟩ rfl rfl (Nat.le_of_ble_eq_true rfl) ⟨by decide, by decide⟩ dX9_line_1 (fun μ2 q3 => ?_)
  replace h := h μ2 q3
  refine v_aload_n C 0 rfl rfl dX9_line_4 ?_
  refine v_aload_n C 0 rfl rfl dX9_line_5 ?_
  refine v_iload_n C 1 rfl rfl dX9_line_6 ?_
  obtain ⟨P4, hs, h⟩ := h
  refine v_callVi C 9 [.int x1] (by decide) rfl rfl rfl (so_X9_isNoSign x1 μ2 P4 hs) gw_X9_132 rfl rfl dd_X9_isNoSign ⟨by decide, by decide⟩ rfl rfl (Nat.le_of_ble_eq_true rfl) ⟨by decide, by decide⟩ dX9_line_7 (fun r7 μ5 q6 => ?_)
  replace h := h r7 μ5 q6
  refine v_iconst (v := (0 : Int32)) C dX9_line_10 (by decide) ?_
  obtain ⟨P8, hs, h⟩ := h
  refine v_callVi C 9 [.int r7, .int (0 : Int32)] (by decide) rfl rfl rfl (so_X9_refused r7 (0 : Int32) μ5 P8 hs) gw_X9_124 rfl rfl dd_X9_refused ⟨by decide, by decide⟩ rfl rfl (Nat.le_of_ble_eq_true rfl) ⟨by decide, by decide⟩ dX9_line_11 (fun r11 μ9 q10 => ?_)
  replace h := h r11 μ9 q10
  refine v_if_eq C 21 (by decide) dX9_line_14 (fun q13 => ?_) (fun q13 => ?_)
  · replace h := h.1 q13
    refine v_aload_n C 0 rfl rfl dX9_line_21 ?_
    refine gf_X9_54 C dX9_line_22 ?_
    refine v_iload_n C 1 rfl rfl dX9_line_25 ?_
    obtain ⟨b12, h⟩ := h
    refine v_iald C 59 (by decide) rfl b12 dX9_line_26 ?_
    exact v_iret C hr h dX9_line_27
  · replace h := h.2 q13
    refine v_iconst (v := (0 : Int32)) C dX9_line_17 (by decide) ?_
    refine v_goto C 27 (by decide) dX9_line_18 ?_
    exact v_iret C hr h dX9_line_27
set_option maxRecDepth 10000 in
set_option maxHeartbeats 4000000 in
theorem so_X9_line {l : Launch} {E : EvT} (x1 : Int32) (μ : MemT) (P : Int32 → MemT → Prop) (h : sp_X9_line x1 μ P) : MCi l E yX9_line cX9_line 2 (some .int) (rmN 5 128) [.ref (eAd E 9), .int x1] μ P := by
  refine mc_entryi (by decide +kernel) (Nat.le_of_ble_eq_true rfl) (fun p e s m below meth c C hr => ?_)
  exact so_X9_line_0 C hr x1 μ h
set_option maxRecDepth 10000 in
set_option maxHeartbeats 4000000 in
theorem so_X9_block_0 {p : Program} {l : Launch} {e : Env} {s : State} {m : MethodId} {args : Array Value} {below : List Frame} {meth : Method} {c : Code} {E : EvT} {P : Int32 → MemT → Prop} (C : Cx p s m args meth c E cX9_block 2 RX9) (hr : meth.sig.returnType = (some .int)) (x1 : Int32) (μ : MemT) (h : t_X9_block_0 P x1 μ) : V p l e (rmN 5 128) s m args below meth c E 2 0 0 (MQ below (va_Qi P (wdP E) (eA E s.heap.size)) args s 0 0 (eA E s.heap.size)) 0 [(0, .ref (eAd E 9)), (1, .int x1)] [] μ := by
  unfold t_X9_block_0 at h
  refine v_aload_n C 0 rfl rfl dX9_block_0 ?_
  obtain ⟨P1, hs, h⟩ := h
  refine v_callVv C 9 [] (by decide) rfl rfl rfl (so_X9_look μ P1 hs) gw_X9_222 rfl rfl dd_X9_look ⟨by decide, by decide⟩ rfl rfl (Nat.le_of_ble_eq_true rfl) ⟨by decide, by decide⟩ dX9_block_1 (fun μ2 q3 => ?_)
  replace h := h μ2 q3
  refine v_aload_n C 0 rfl rfl dX9_block_4 ?_
  refine v_aload_n C 0 rfl rfl dX9_block_5 ?_
  refine v_iload_n C 1 rfl rfl dX9_block_6 ?_
  obtain ⟨P4, hs, h⟩ := h
  refine v_callVi C 9 [.int x1] (by decide) rfl rfl rfl (so_X9_isNoSign x1 μ2 P4 hs) gw_X9_132 rfl rfl dd_X9_isNoSign ⟨by decide, by decide⟩ rfl rfl (Nat.le_of_ble_eq_true rfl) ⟨by decide, by decide⟩ dX9_block_7 (fun r7 μ5 q6 => ?_)
  replace h := h r7 μ5 q6
  refine v_iconst (v := (0 : Int32)) C dX9_block_10 (by decide) ?_
  obtain ⟨P8, hs, h⟩ := h
  refine v_callVi C 9 [.int r7, .int (0 : Int32)] (by decide) rfl rfl rfl (so_X9_refused r7 (0 : Int32) μ5 P8 hs) gw_X9_124 rfl rfl dd_X9_refused ⟨by decide, by decide⟩ rfl rfl (Nat.le_of_ble_eq_true rfl) ⟨by decide, by decide⟩ dX9_block_11 (fun r11 μ9 q10 => ?_)
  replace h := h r11 μ9 q10
  refine v_if_eq C 21 (by decide) dX9_block_14 (fun q16 => ?_) (fun q16 => ?_)
  · replace h := h.1 q16
    refine v_aload_n C 0 rfl rfl dX9_block_21 ?_
    refine v_iload_n C 1 rfl rfl dX9_block_22 ?_
    obtain ⟨P12, hs, h⟩ := h
    refine v_callVi C 9 [.int x1] (by decide) rfl rfl rfl (so_X9_groupOf x1 μ9 P12 hs) gw_X9_194 rfl rfl dd_X9_groupOf ⟨by decide, by decide⟩ rfl rfl (Nat.le_of_ble_eq_true rfl) ⟨by decide, by decide⟩ dX9_block_23 (fun r15 μ13 q14 => ?_)
    replace h := h r15 μ13 q14
    exact v_iret C hr h dX9_block_26
  · replace h := h.2 q16
    refine v_iconst (v := (0 : Int32)) C dX9_block_17 (by decide) ?_
    refine v_goto C 26 (by decide) dX9_block_18 ?_
    exact v_iret C hr h dX9_block_26
set_option maxRecDepth 10000 in
set_option maxHeartbeats 4000000 in
theorem so_X9_block {l : Launch} {E : EvT} (x1 : Int32) (μ : MemT) (P : Int32 → MemT → Prop) (h : sp_X9_block x1 μ P) : MCi l E yX9_block cX9_block 2 (some .int) (rmN 5 128) [.ref (eAd E 9), .int x1] μ P := by
  refine mc_entryi (by decide +kernel) (Nat.le_of_ble_eq_true rfl) (fun p e s m below meth c C hr => ?_)
  exact so_X9_block_0 C hr x1 μ h
set_option maxRecDepth 10000 in
set_option maxHeartbeats 4000000 in
theorem so_X9_twice_0 {p : Program} {l : Launch} {e : Env} {s : State} {m : MethodId} {args : Array Value} {below : List Frame} {meth : Method} {c : Code} {E : EvT} {P : Int32 → MemT → Prop} (C : Cx p s m args meth c E cX9_twice 2 RX9) (hr : meth.sig.returnType = (some .int)) (x1 : Int32) (μ : MemT) (h : t_X9_twice_0 P x1 μ) : V p l e (rmN 5 128) s m args below meth c E 2 0 0 (MQ below (va_Qi P (wdP E) (eA E s.heap.size)) args s 0 0 (eA E s.heap.size)) 0 [(0, .ref (eAd E 9)), (1, .int x1)] [] μ := by
  unfold t_X9_twice_0 at h
  refine v_aload_n C 0 rfl rfl dX9_twice_0 ?_
  obtain ⟨P1, hs, h⟩ := h
  refine v_callVv C 9 [] (by decide) rfl rfl rfl (so_X9_look μ P1 hs) gw_X9_222 rfl rfl dd_X9_look ⟨by decide, by decide⟩ rfl rfl (Nat.le_of_ble_eq_true rfl) ⟨by decide, by decide⟩ dX9_twice_1 (fun μ2 q3 => ?_)
  replace h := h μ2 q3
  refine v_aload_n C 0 rfl rfl dX9_twice_4 ?_
  refine v_aload_n C 0 rfl rfl dX9_twice_5 ?_
  refine v_iload_n C 1 rfl rfl dX9_twice_6 ?_
  obtain ⟨P4, hs, h⟩ := h
  refine v_callVi C 9 [.int x1] (by decide) rfl rfl rfl (so_X9_isNoSign x1 μ2 P4 hs) gw_X9_132 rfl rfl dd_X9_isNoSign ⟨by decide, by decide⟩ rfl rfl (Nat.le_of_ble_eq_true rfl) ⟨by decide, by decide⟩ dX9_twice_7 (fun r7 μ5 q6 => ?_)
  replace h := h r7 μ5 q6
  refine v_iconst (v := (0 : Int32)) C dX9_twice_10 (by decide) ?_
  obtain ⟨P8, hs, h⟩ := h
  refine v_callVi C 9 [.int r7, .int (0 : Int32)] (by decide) rfl rfl rfl (so_X9_refused r7 (0 : Int32) μ5 P8 hs) gw_X9_124 rfl rfl dd_X9_refused ⟨by decide, by decide⟩ rfl rfl (Nat.le_of_ble_eq_true rfl) ⟨by decide, by decide⟩ dX9_twice_11 (fun r11 μ9 q10 => ?_)
  replace h := h r11 μ9 q10
  refine v_if_eq C 21 (by decide) dX9_twice_14 (fun q13 => ?_) (fun q13 => ?_)
  · replace h := h.1 q13
    refine v_aload_n C 0 rfl rfl dX9_twice_21 ?_
    refine gf_X9_51 C dX9_twice_22 ?_
    refine v_iload_n C 1 rfl rfl dX9_twice_25 ?_
    obtain ⟨b12, h⟩ := h
    refine v_iald C 58 (by decide) rfl b12 dX9_twice_26 ?_
    exact v_iret C hr h dX9_twice_27
  · replace h := h.2 q13
    refine v_iconst (v := (0 : Int32)) C dX9_twice_17 (by decide) ?_
    refine v_goto C 27 (by decide) dX9_twice_18 ?_
    exact v_iret C hr h dX9_twice_27
set_option maxRecDepth 10000 in
set_option maxHeartbeats 4000000 in
theorem so_X9_twice {l : Launch} {E : EvT} (x1 : Int32) (μ : MemT) (P : Int32 → MemT → Prop) (h : sp_X9_twice x1 μ P) : MCi l E yX9_twice cX9_twice 2 (some .int) (rmN 5 128) [.ref (eAd E 9), .int x1] μ P := by
  refine mc_entryi (by decide +kernel) (Nat.le_of_ble_eq_true rfl) (fun p e s m below meth c C hr => ?_)
  exact so_X9_twice_0 C hr x1 μ h
set_option maxRecDepth 10000 in
set_option maxHeartbeats 4000000 in
theorem so_X9_space_0 {p : Program} {l : Launch} {e : Env} {s : State} {m : MethodId} {args : Array Value} {below : List Frame} {meth : Method} {c : Code} {E : EvT} {P : Int32 → MemT → Prop} (C : Cx p s m args meth c E cX9_space 2 RX9) (hr : meth.sig.returnType = (some .boolean)) (x1 : Int32) (μ : MemT) (h : t_X9_space_0 P x1 μ) : V p l e (rmN 5 128) s m args below meth c E 2 0 0 (MQ below (va_Qi P (wdP E) (eA E s.heap.size)) args s 0 0 (eA E s.heap.size)) 0 [(0, .ref (eAd E 9)), (1, .int x1)] [] μ := by
  unfold t_X9_space_0 at h
  refine v_aload_n C 0 rfl rfl dX9_space_0 ?_
  obtain ⟨P1, hs, h⟩ := h
  refine v_callVv C 9 [] (by decide) rfl rfl rfl (so_X9_look μ P1 hs) gw_X9_222 rfl rfl dd_X9_look ⟨by decide, by decide⟩ rfl rfl (Nat.le_of_ble_eq_true rfl) ⟨by decide, by decide⟩ dX9_space_1 (fun μ2 q3 => ?_)
  replace h := h μ2 q3
  refine v_aload_n C 0 rfl rfl dX9_space_4 ?_
  refine v_aload_n C 0 rfl rfl dX9_space_5 ?_
  refine v_iload_n C 1 rfl rfl dX9_space_6 ?_
  obtain ⟨P4, hs, h⟩ := h
  refine v_callVi C 9 [.int x1] (by decide) rfl rfl rfl (so_X9_isNoSign x1 μ2 P4 hs) gw_X9_132 rfl rfl dd_X9_isNoSign ⟨by decide, by decide⟩ rfl rfl (Nat.le_of_ble_eq_true rfl) ⟨by decide, by decide⟩ dX9_space_7 (fun r7 μ5 q6 => ?_)
  replace h := h r7 μ5 q6
  refine v_iconst (v := (0 : Int32)) C dX9_space_10 (by decide) ?_
  obtain ⟨P8, hs, h⟩ := h
  refine v_callVi C 9 [.int r7, .int (0 : Int32)] (by decide) rfl rfl rfl (so_X9_refused r7 (0 : Int32) μ5 P8 hs) gw_X9_124 rfl rfl dd_X9_refused ⟨by decide, by decide⟩ rfl rfl (Nat.le_of_ble_eq_true rfl) ⟨by decide, by decide⟩ dX9_space_11 (fun r11 μ9 q10 => ?_)
  replace h := h r11 μ9 q10
  refine v_if_ne C 30 (by decide) dX9_space_14 (fun q14 => ?_) (fun q14 => ?_)
  · replace h := h.1 q14
    refine v_iconst (v := (0 : Int32)) C dX9_space_30 (by decide) ?_
    exact v_zret C hr nb0 h dX9_space_31
  · replace h := h.2 q14
    refine v_aload_n C 0 rfl rfl dX9_space_17 ?_
    refine gf_X9_63 C dX9_space_18 ?_
    refine v_iload_n C 1 rfl rfl dX9_space_21 ?_
    obtain ⟨b12, h⟩ := h
    refine v_zald C 62 (by decide) rfl b12 dX9_space_22 ?_
    refine v_if_eq C 30 (by decide) dX9_space_23 (fun q13 => ?_) (fun q13 => ?_)
    · replace h := h.1 q13
      refine v_iconst (v := (0 : Int32)) C dX9_space_30 (by decide) ?_
      exact v_zret C hr nb0 h dX9_space_31
    · replace h := h.2 q13
      refine v_iconst (v := (1 : Int32)) C dX9_space_26 (by decide) ?_
      refine v_goto C 31 (by decide) dX9_space_27 ?_
      exact v_zret C hr nb1 h dX9_space_31
set_option maxRecDepth 10000 in
set_option maxHeartbeats 4000000 in
theorem so_X9_space {l : Launch} {E : EvT} (x1 : Int32) (μ : MemT) (P : Int32 → MemT → Prop) (h : sp_X9_space x1 μ P) : MCi l E yX9_space cX9_space 2 (some .boolean) (rmN 5 128) [.ref (eAd E 9), .int x1] μ P := by
  refine mc_entryi (by decide +kernel) (Nat.le_of_ble_eq_true rfl) (fun p e s m below meth c C hr => ?_)
  exact so_X9_space_0 C hr x1 μ h
set_option maxRecDepth 10000 in
set_option maxHeartbeats 4000000 in
theorem so_X9_share_12 {p : Program} {l : Launch} {e : Env} {s : State} {m : MethodId} {args : Array Value} {below : List Frame} {meth : Method} {c : Code} {E : EvT} {P : Int64 → MemT → Prop} (C : Cx p s m args meth c E cX9_share 5 RX9) (hr : meth.sig.returnType = (some .long)) (x1 : Int64) (x3 : Int64) (y1 : Int32) (μ : MemT) (h : t_X9_share_12 P x1 x3 y1 μ) : V p l e (rmN 1 22) s m args below meth c E 5 0 0 (MQ below (va_Ql P (wdP E) (eA E s.heap.size)) args s 0 0 (eA E s.heap.size)) 12 [(0, .ref (eAd E 9)), (1, .long x1), (3, .long x3)] [.int y1, .ref (eAd E 9)] μ := by
  unfold t_X9_share_12 at h
  refine v_iconst (v := (0 : Int32)) C dX9_share_12 (by decide) ?_
  obtain ⟨P1, hs, h⟩ := h
  refine v_callVi C 9 [.int y1, .int (0 : Int32)] (by decide) rfl rfl rfl (so_X9_refused y1 (0 : Int32) μ P1 hs) gw_X9_124 rfl rfl dd_X9_refused ⟨by decide, by decide⟩ rfl rfl (Nat.le_of_ble_eq_true rfl) ⟨by decide, by decide⟩ dX9_share_13 (fun r4 μ2 q3 => ?_)
  replace h := h r4 μ2 q3
  refine v_if_eq C 23 (by decide) dX9_share_16 (fun q6 => ?_) (fun q6 => ?_)
  · replace h := h.1 q6
    refine v_ldc2 C gc_X9_122 dX9_share_23 ?_
    refine v_lload_n C 1 rfl rfl dX9_share_26 ?_
    refine v_lmul C dX9_share_27 ?_
    refine v_lload_n C 2 rfl rfl dX9_share_28 ?_
    obtain ⟨b5, h⟩ := h
    refine v_ldiv C b5 dX9_share_29 ?_
    exact v_lret C hr h dX9_share_30
  · replace h := h.2 q6
    refine v_lconst (v := (0 : Int64)) C dX9_share_19 (by decide) ?_
    refine v_goto C 30 (by decide) dX9_share_20 ?_
    exact v_lret C hr h dX9_share_30
set_option maxRecDepth 10000 in
set_option maxHeartbeats 4000000 in
theorem so_X9_share_0 {p : Program} {l : Launch} {e : Env} {s : State} {m : MethodId} {args : Array Value} {below : List Frame} {meth : Method} {c : Code} {E : EvT} {P : Int64 → MemT → Prop} (C : Cx p s m args meth c E cX9_share 5 RX9) (hr : meth.sig.returnType = (some .long)) (x1 : Int64) (x3 : Int64) (μ : MemT) (h : t_X9_share_0 P x1 x3 μ) : V p l e (rmN 1 22) s m args below meth c E 5 0 0 (MQ below (va_Ql P (wdP E) (eA E s.heap.size)) args s 0 0 (eA E s.heap.size)) 0 [(0, .ref (eAd E 9)), (1, .long x1), (3, .long x3)] [] μ := by
  unfold t_X9_share_0 at h
  refine v_aload_n C 0 rfl rfl dX9_share_0 ?_
  refine v_lload_n C 2 rfl rfl dX9_share_1 ?_
  refine v_lconst (v := (0 : Int64)) C dX9_share_2 (by decide) ?_
  refine v_lcmp_ne C 11 (by decide) dX9_share_3 dX9_share_4 (fun q1 => ?_) (fun q1 => ?_)
  · replace h := h.1 q1
    refine v_iconst (v := (0 : Int32)) C dX9_share_11 (by decide) ?_
    exact so_X9_share_12 C hr _ _ _ _ h
  · replace h := h.2 q1
    refine v_iconst (v := (1 : Int32)) C dX9_share_7 (by decide) ?_
    refine v_goto C 12 (by decide) dX9_share_8 ?_
    exact so_X9_share_12 C hr _ _ _ _ h
set_option maxRecDepth 10000 in
set_option maxHeartbeats 4000000 in
theorem so_X9_share {l : Launch} {E : EvT} (x1 : Int64) (x3 : Int64) (μ : MemT) (P : Int64 → MemT → Prop) (h : sp_X9_share x1 x3 μ P) : MCl l E yX9_share cX9_share 5 (some .long) (rmN 1 22) [.ref (eAd E 9), .long x1, .long x3] μ P := by
  refine mc_entryl (by decide +kernel) (Nat.le_of_ble_eq_true rfl) (fun p e s m below meth c C hr => ?_)
  exact so_X9_share_0 C hr x1 x3 μ h
set_option maxRecDepth 10000 in
set_option maxHeartbeats 4000000 in
theorem so_X9_isBlank_0 {p : Program} {l : Launch} {e : Env} {s : State} {m : MethodId} {args : Array Value} {below : List Frame} {meth : Method} {c : Code} {E : EvT} {P : Int32 → MemT → Prop} (C : Cx p s m args meth c E cX9_isBlank 2 RX9) (hr : meth.sig.returnType = (some .boolean)) (x1 : Int32) (μ : MemT) (h : t_X9_isBlank_0 P x1 μ) : V p l e (rmN 0 0) s m args below meth c E 2 0 0 (MQ below (va_Qi P (wdP E) (eA E s.heap.size)) args s 0 0 (eA E s.heap.size)) 0 [(0, .ref (eAd E 9)), (1, .int x1)] [] μ := by
  unfold t_X9_isBlank_0 at h
  refine v_iload_n C 1 rfl rfl dX9_isBlank_0 ?_
  refine v_if_lt C 34 (by decide) dX9_isBlank_1 (fun q6 => ?_) (fun q6 => ?_)
  · replace h := h.1 q6
    refine v_iconst (v := (1 : Int32)) C dX9_isBlank_34 (by decide) ?_
    refine v_goto C 39 (by decide) dX9_isBlank_35 ?_
    exact v_zret C hr nb1 h dX9_isBlank_39
  · replace h := h.2 q6
    refine v_iload_n C 1 rfl rfl dX9_isBlank_4 ?_
    refine v_aload_n C 0 rfl rfl dX9_isBlank_5 ?_
    refine gf_X9_197 C dX9_isBlank_6 ?_
    refine v_icmp_ge C 34 (by decide) dX9_isBlank_9 (fun q5 => ?_) (fun q5 => ?_)
    · replace h := h.1 q5
      refine v_iconst (v := (1 : Int32)) C dX9_isBlank_34 (by decide) ?_
      refine v_goto C 39 (by decide) dX9_isBlank_35 ?_
      exact v_zret C hr nb1 h dX9_isBlank_39
    · replace h := h.2 q5
      refine v_aload_n C 0 rfl rfl dX9_isBlank_12 ?_
      refine gf_X9_93 C dX9_isBlank_13 ?_
      refine v_iload_n C 1 rfl rfl dX9_isBlank_16 ?_
      obtain ⟨b1, h⟩ := h
      refine v_iald C 72 (by decide) rfl b1 dX9_isBlank_17 ?_
      refine v_bipush (v := (32 : Int32)) C dX9_isBlank_18 (by decide) ?_
      refine v_icmp_eq C 34 (by decide) dX9_isBlank_20 (fun q4 => ?_) (fun q4 => ?_)
      · replace h := h.1 q4
        refine v_iconst (v := (1 : Int32)) C dX9_isBlank_34 (by decide) ?_
        refine v_goto C 39 (by decide) dX9_isBlank_35 ?_
        exact v_zret C hr nb1 h dX9_isBlank_39
      · replace h := h.2 q4
        refine v_aload_n C 0 rfl rfl dX9_isBlank_23 ?_
        refine gf_X9_93 C dX9_isBlank_24 ?_
        refine v_iload_n C 1 rfl rfl dX9_isBlank_27 ?_
        obtain ⟨b2, h⟩ := h
        refine v_iald C 72 (by decide) rfl b2 dX9_isBlank_28 ?_
        refine v_bipush (v := (10 : Int32)) C dX9_isBlank_29 (by decide) ?_
        refine v_icmp_ne C 38 (by decide) dX9_isBlank_31 (fun q3 => ?_) (fun q3 => ?_)
        · replace h := h.1 q3
          refine v_iconst (v := (0 : Int32)) C dX9_isBlank_38 (by decide) ?_
          exact v_zret C hr nb0 h dX9_isBlank_39
        · replace h := h.2 q3
          refine v_iconst (v := (1 : Int32)) C dX9_isBlank_34 (by decide) ?_
          refine v_goto C 39 (by decide) dX9_isBlank_35 ?_
          exact v_zret C hr nb1 h dX9_isBlank_39
set_option maxRecDepth 10000 in
set_option maxHeartbeats 4000000 in
theorem so_X9_isBlank {l : Launch} {E : EvT} (x1 : Int32) (μ : MemT) (P : Int32 → MemT → Prop) (h : sp_X9_isBlank x1 μ P) : MCi l E yX9_isBlank cX9_isBlank 2 (some .boolean) (rmN 0 0) [.ref (eAd E 9), .int x1] μ P := by
  refine mc_entryi (by decide +kernel) (Nat.le_of_ble_eq_true rfl) (fun p e s m below meth c C hr => ?_)
  exact so_X9_isBlank_0 C hr x1 μ h
set_option maxRecDepth 10000 in
set_option maxHeartbeats 4000000 in
theorem so_X9_word_109 {p : Program} {l : Launch} {e : Env} {s : State} {m : MethodId} {args : Array Value} {below : List Frame} {meth : Method} {c : Code} {E : EvT} {P : Int32 → MemT → Prop} (C : Cx p s m args meth c E cX9_word 6 RX9) (hr : meth.sig.returnType = (some .int)) {K12 : Int32 → Int32 → Int32 → Int32 → Int32 → MemT → Prop} (hK12 : ∀ (x1 : Int32) (x2 : Int32) (x3 : Int32) (x4 : Int32) (x5 : Int32) (μ : MemT), K12 x1 x2 x3 x4 x5 μ → V p l e (rmN 5 128) s m args below meth c E 6 0 0 (MQ below (va_Qi P (wdP E) (eA E s.heap.size)) args s 0 0 (eA E s.heap.size)) 12 [(0, .ref (eAd E 9)), (1, .int x1), (2, .int x2), (3, .int x3), (4, .int x4), (5, .int x5)] [] μ) {K124 : Int32 → Int32 → Int32 → Int32 → Int32 → MemT → Prop} (hK124 : ∀ (x1 : Int32) (x2 : Int32) (x3 : Int32) (x4 : Int32) (x5 : Int32) (μ : MemT), K124 x1 x2 x3 x4 x5 μ → V p l e (rmN 5 128) s m args below meth c E 6 0 0 (MQ below (va_Qi P (wdP E) (eA E s.heap.size)) args s 0 0 (eA E s.heap.size)) 124 [(0, .ref (eAd E 9)), (1, .int x1), (2, .int x2), (3, .int x3), (4, .int x4), (5, .int x5)] [] μ) (x1 : Int32) (x2 : Int32) (x3 : Int32) (x4 : Int32) (x5 : Int32) (μ : MemT) (h : t_X9_word_109 K12 K124 P x1 x2 x3 x4 x5 μ) : V p l e (rmN 5 128) s m args below meth c E 6 0 0 (MQ below (va_Qi P (wdP E) (eA E s.heap.size)) args s 0 0 (eA E s.heap.size)) 109 [(0, .ref (eAd E 9)), (1, .int x1), (2, .int x2), (3, .int x3), (4, .int x4), (5, .int x5)] [] μ := by
  unfold t_X9_word_109 at h
  refine v_iload_n C 1 rfl rfl dX9_word_109 ?_
  refine v_iconst (v := (-1 : Int32)) C dX9_word_110 (by decide) ?_
  refine v_icmp_ne C 118 (by decide) dX9_word_111 (fun q1 => ?_) (fun q1 => ?_)
  · replace h := h.1 q1
    refine v_iload C 4 rfl dX9_word_118 ?_
    exact v_iret C hr h dX9_word_120
  · replace h := h.2 q1
    refine v_iload_n C 3 rfl rfl dX9_word_114 ?_
    refine v_goto C 120 (by decide) dX9_word_115 ?_
    exact v_iret C hr h dX9_word_120
set_option maxRecDepth 10000 in
set_option maxHeartbeats 4000000 in
theorem so_X9_word_91 {p : Program} {l : Launch} {e : Env} {s : State} {m : MethodId} {args : Array Value} {below : List Frame} {meth : Method} {c : Code} {E : EvT} {P : Int32 → MemT → Prop} (C : Cx p s m args meth c E cX9_word 6 RX9) (hr : meth.sig.returnType = (some .int)) {K12 : Int32 → Int32 → Int32 → Int32 → Int32 → MemT → Prop} (hK12 : ∀ (x1 : Int32) (x2 : Int32) (x3 : Int32) (x4 : Int32) (x5 : Int32) (μ : MemT), K12 x1 x2 x3 x4 x5 μ → V p l e (rmN 5 128) s m args below meth c E 6 0 0 (MQ below (va_Qi P (wdP E) (eA E s.heap.size)) args s 0 0 (eA E s.heap.size)) 12 [(0, .ref (eAd E 9)), (1, .int x1), (2, .int x2), (3, .int x3), (4, .int x4), (5, .int x5)] [] μ) {K124 : Int32 → Int32 → Int32 → Int32 → Int32 → MemT → Prop} (hK124 : ∀ (x1 : Int32) (x2 : Int32) (x3 : Int32) (x4 : Int32) (x5 : Int32) (μ : MemT), K124 x1 x2 x3 x4 x5 μ → V p l e (rmN 5 128) s m args below meth c E 6 0 0 (MQ below (va_Qi P (wdP E) (eA E s.heap.size)) args s 0 0 (eA E s.heap.size)) 124 [(0, .ref (eAd E 9)), (1, .int x1), (2, .int x2), (3, .int x3), (4, .int x4), (5, .int x5)] [] μ) (x1 : Int32) (x2 : Int32) (x3 : Int32) (x4 : Int32) (x5 : Int32) (y1 : Int32) (μ : MemT) (h : t_X9_word_91 K12 K124 P x1 x2 x3 x4 x5 y1 μ) : V p l e (rmN 5 128) s m args below meth c E 6 0 0 (MQ below (va_Qi P (wdP E) (eA E s.heap.size)) args s 0 0 (eA E s.heap.size)) 91 [(0, .ref (eAd E 9)), (1, .int x1), (2, .int x2), (3, .int x3), (4, .int x4), (5, .int x5)] [.int y1, .ref (eAd E 9)] μ := by
  unfold t_X9_word_91 at h
  refine v_iconst (v := (0 : Int32)) C dX9_word_91 (by decide) ?_
  obtain ⟨P1, hs, h⟩ := h
  refine v_callVi C 9 [.int y1, .int (0 : Int32)] (by decide) rfl rfl rfl (so_X9_refused y1 (0 : Int32) μ P1 hs) gw_X9_124 rfl rfl dd_X9_refused ⟨by decide, by decide⟩ rfl rfl (Nat.le_of_ble_eq_true rfl) ⟨by decide, by decide⟩ dX9_word_92 (fun r4 μ2 q3 => ?_)
  replace h := h r4 μ2 q3
  refine v_if_eq C 100 (by decide) dX9_word_95 (fun q7 => ?_) (fun q7 => ?_)
  · replace h := h.1 q7
    refine v_iload_n C 1 rfl rfl dX9_word_100 ?_
    refine v_iconst (v := (-1 : Int32)) C dX9_word_101 (by decide) ?_
    refine v_icmp_eq C 109 (by decide) dX9_word_102 (fun q6 => ?_) (fun q6 => ?_)
    · replace h := h.1 q6
      exact so_X9_word_109 C hr hK12 hK124 _ _ _ _ _ _ h
    · replace h := h.2 q6
      refine v_iload_n C 2 rfl rfl dX9_word_105 ?_
      refine v_if_ne C 121 (by decide) dX9_word_106 (fun q5 => ?_) (fun q5 => ?_)
      · replace h := h.1 q5
        refine v_iconst (v := (0 : Int32)) C dX9_word_121 (by decide) ?_
        refine v_istore C [(5, .int (0 : Int32)), (0, .ref (eAd E 9)), (1, .int x1), (2, .int x2), (3, .int x3), (4, .int x4)] (by decide) rfl dX9_word_122 ?_
        refine v_sub C [1, 2, 3, 4, 5, 0] rfl ?_
        exact hK124 _ _ _ _ _ _ h
      · replace h := h.2 q5
        exact so_X9_word_109 C hr hK12 hK124 _ _ _ _ _ _ h
  · replace h := h.2 q7
    refine v_iconst (v := (0 : Int32)) C dX9_word_98 (by decide) ?_
    exact v_iret C hr h dX9_word_99
set_option maxRecDepth 10000 in
set_option maxHeartbeats 4000000 in
theorem so_X9_word_90 {p : Program} {l : Launch} {e : Env} {s : State} {m : MethodId} {args : Array Value} {below : List Frame} {meth : Method} {c : Code} {E : EvT} {P : Int32 → MemT → Prop} (C : Cx p s m args meth c E cX9_word 6 RX9) (hr : meth.sig.returnType = (some .int)) {K12 : Int32 → Int32 → Int32 → Int32 → Int32 → MemT → Prop} (hK12 : ∀ (x1 : Int32) (x2 : Int32) (x3 : Int32) (x4 : Int32) (x5 : Int32) (μ : MemT), K12 x1 x2 x3 x4 x5 μ → V p l e (rmN 5 128) s m args below meth c E 6 0 0 (MQ below (va_Qi P (wdP E) (eA E s.heap.size)) args s 0 0 (eA E s.heap.size)) 12 [(0, .ref (eAd E 9)), (1, .int x1), (2, .int x2), (3, .int x3), (4, .int x4), (5, .int x5)] [] μ) {K124 : Int32 → Int32 → Int32 → Int32 → Int32 → MemT → Prop} (hK124 : ∀ (x1 : Int32) (x2 : Int32) (x3 : Int32) (x4 : Int32) (x5 : Int32) (μ : MemT), K124 x1 x2 x3 x4 x5 μ → V p l e (rmN 5 128) s m args below meth c E 6 0 0 (MQ below (va_Qi P (wdP E) (eA E s.heap.size)) args s 0 0 (eA E s.heap.size)) 124 [(0, .ref (eAd E 9)), (1, .int x1), (2, .int x2), (3, .int x3), (4, .int x4), (5, .int x5)] [] μ) (x1 : Int32) (x2 : Int32) (x3 : Int32) (x4 : Int32) (x5 : Int32) (μ : MemT) (h : t_X9_word_90 K12 K124 P x1 x2 x3 x4 x5 μ) : V p l e (rmN 5 128) s m args below meth c E 6 0 0 (MQ below (va_Qi P (wdP E) (eA E s.heap.size)) args s 0 0 (eA E s.heap.size)) 90 [(0, .ref (eAd E 9)), (1, .int x1), (2, .int x2), (3, .int x3), (4, .int x4), (5, .int x5)] [.ref (eAd E 9)] μ := by
  unfold t_X9_word_90 at h
  refine v_iconst (v := (0 : Int32)) C dX9_word_90 (by decide) ?_
  exact so_X9_word_91 C hr hK12 hK124 _ _ _ _ _ _ _ h
set_option maxRecDepth 10000 in
set_option maxHeartbeats 4000000 in
theorem so_X9_word_86 {p : Program} {l : Launch} {e : Env} {s : State} {m : MethodId} {args : Array Value} {below : List Frame} {meth : Method} {c : Code} {E : EvT} {P : Int32 → MemT → Prop} (C : Cx p s m args meth c E cX9_word 6 RX9) (hr : meth.sig.returnType = (some .int)) {K12 : Int32 → Int32 → Int32 → Int32 → Int32 → MemT → Prop} (hK12 : ∀ (x1 : Int32) (x2 : Int32) (x3 : Int32) (x4 : Int32) (x5 : Int32) (μ : MemT), K12 x1 x2 x3 x4 x5 μ → V p l e (rmN 5 128) s m args below meth c E 6 0 0 (MQ below (va_Qi P (wdP E) (eA E s.heap.size)) args s 0 0 (eA E s.heap.size)) 12 [(0, .ref (eAd E 9)), (1, .int x1), (2, .int x2), (3, .int x3), (4, .int x4), (5, .int x5)] [] μ) {K124 : Int32 → Int32 → Int32 → Int32 → Int32 → MemT → Prop} (hK124 : ∀ (x1 : Int32) (x2 : Int32) (x3 : Int32) (x4 : Int32) (x5 : Int32) (μ : MemT), K124 x1 x2 x3 x4 x5 μ → V p l e (rmN 5 128) s m args below meth c E 6 0 0 (MQ below (va_Qi P (wdP E) (eA E s.heap.size)) args s 0 0 (eA E s.heap.size)) 124 [(0, .ref (eAd E 9)), (1, .int x1), (2, .int x2), (3, .int x3), (4, .int x4), (5, .int x5)] [] μ) (x1 : Int32) (x2 : Int32) (x3 : Int32) (x4 : Int32) (x5 : Int32) (μ : MemT) (h : t_X9_word_86 K12 K124 P x1 x2 x3 x4 x5 μ) : V p l e (rmN 5 128) s m args below meth c E 6 0 0 (MQ below (va_Qi P (wdP E) (eA E s.heap.size)) args s 0 0 (eA E s.heap.size)) 86 [(0, .ref (eAd E 9)), (1, .int x1), (2, .int x2), (3, .int x3), (4, .int x4), (5, .int x5)] [.ref (eAd E 9)] μ := by
  unfold t_X9_word_86 at h
  refine v_iconst (v := (1 : Int32)) C dX9_word_86 (by decide) ?_
  refine v_goto C 91 (by decide) dX9_word_87 ?_
  exact so_X9_word_91 C hr hK12 hK124 _ _ _ _ _ _ _ h
set_option maxRecDepth 10000 in
set_option maxHeartbeats 4000000 in
theorem so_X9_word_124 {p : Program} {l : Launch} {e : Env} {s : State} {m : MethodId} {args : Array Value} {below : List Frame} {meth : Method} {c : Code} {E : EvT} {P : Int32 → MemT → Prop} (C : Cx p s m args meth c E cX9_word 6 RX9) (hr : meth.sig.returnType = (some .int)) {K12 : Int32 → Int32 → Int32 → Int32 → Int32 → MemT → Prop} (hK12 : ∀ (x1 : Int32) (x2 : Int32) (x3 : Int32) (x4 : Int32) (x5 : Int32) (μ : MemT), K12 x1 x2 x3 x4 x5 μ → V p l e (rmN 5 128) s m args below meth c E 6 0 0 (MQ below (va_Qi P (wdP E) (eA E s.heap.size)) args s 0 0 (eA E s.heap.size)) 12 [(0, .ref (eAd E 9)), (1, .int x1), (2, .int x2), (3, .int x3), (4, .int x4), (5, .int x5)] [] μ) {K124 : Int32 → Int32 → Int32 → Int32 → Int32 → MemT → Prop} (hK124 : ∀ (x1 : Int32) (x2 : Int32) (x3 : Int32) (x4 : Int32) (x5 : Int32) (μ : MemT), K124 x1 x2 x3 x4 x5 μ → V p l e (rmN 5 128) s m args below meth c E 6 0 0 (MQ below (va_Qi P (wdP E) (eA E s.heap.size)) args s 0 0 (eA E s.heap.size)) 124 [(0, .ref (eAd E 9)), (1, .int x1), (2, .int x2), (3, .int x3), (4, .int x4), (5, .int x5)] [] μ) (x1 : Int32) (x2 : Int32) (x3 : Int32) (x4 : Int32) (x5 : Int32) (μ : MemT) (h : t_X9_word_124 K12 K124 P x1 x2 x3 x4 x5 μ) : V p l e (rmN 5 128) s m args below meth c E 6 0 0 (MQ below (va_Qi P (wdP E) (eA E s.heap.size)) args s 0 0 (eA E s.heap.size)) 124 [(0, .ref (eAd E 9)), (1, .int x1), (2, .int x2), (3, .int x3), (4, .int x4), (5, .int x5)] [] μ := by
  unfold t_X9_word_124 at h
  refine v_aload_n C 0 rfl rfl dX9_word_124 ?_
  refine v_iload C 4 rfl dX9_word_125 ?_
  refine v_iload C 5 rfl dX9_word_127 ?_
  refine v_iadd C dX9_word_129 ?_
  obtain ⟨P1, hs, h⟩ := h
  refine v_callVi C 9 [.int (x4 + x5)] (by decide) rfl rfl rfl (so_X9_isBlank (x4 + x5) μ P1 hs) gw_X9_225 rfl rfl dd_X9_isBlank ⟨by decide, by decide⟩ rfl rfl (Nat.le_of_ble_eq_true rfl) ⟨by decide, by decide⟩ dX9_word_130 (fun r4 μ2 q3 => ?_)
  replace h := h r4 μ2 q3
  refine v_if_ne C 142 (by decide) dX9_word_133 (fun q5 => ?_) (fun q5 => ?_)
  · replace h := h.1 q5
    refine v_iload C 5 rfl dX9_word_142 ?_
    exact v_iret C hr h dX9_word_144
  · replace h := h.2 q5
    refine v_iinc (v := (x5 + 1)) C 5 [(5, .int (x5 + 1)), (0, .ref (eAd E 9)), (1, .int x1), (2, .int x2), (3, .int x3), (4, .int x4)] rfl rfl (by decide) rfl dX9_word_136 ?_
    refine v_goto C 124 (by decide) dX9_word_139 ?_
    refine v_sub C [1, 2, 3, 4, 5, 0] rfl ?_
    exact hK124 _ _ _ _ _ _ h
set_option maxRecDepth 10000 in
set_option maxHeartbeats 4000000 in
theorem so_X9_word_12 {p : Program} {l : Launch} {e : Env} {s : State} {m : MethodId} {args : Array Value} {below : List Frame} {meth : Method} {c : Code} {E : EvT} {P : Int32 → MemT → Prop} (C : Cx p s m args meth c E cX9_word 6 RX9) (hr : meth.sig.returnType = (some .int)) {K12 : Int32 → Int32 → Int32 → Int32 → Int32 → MemT → Prop} (hK12 : ∀ (x1 : Int32) (x2 : Int32) (x3 : Int32) (x4 : Int32) (x5 : Int32) (μ : MemT), K12 x1 x2 x3 x4 x5 μ → V p l e (rmN 5 128) s m args below meth c E 6 0 0 (MQ below (va_Qi P (wdP E) (eA E s.heap.size)) args s 0 0 (eA E s.heap.size)) 12 [(0, .ref (eAd E 9)), (1, .int x1), (2, .int x2), (3, .int x3), (4, .int x4), (5, .int x5)] [] μ) {K124 : Int32 → Int32 → Int32 → Int32 → Int32 → MemT → Prop} (hK124 : ∀ (x1 : Int32) (x2 : Int32) (x3 : Int32) (x4 : Int32) (x5 : Int32) (μ : MemT), K124 x1 x2 x3 x4 x5 μ → V p l e (rmN 5 128) s m args below meth c E 6 0 0 (MQ below (va_Qi P (wdP E) (eA E s.heap.size)) args s 0 0 (eA E s.heap.size)) 124 [(0, .ref (eAd E 9)), (1, .int x1), (2, .int x2), (3, .int x3), (4, .int x4), (5, .int x5)] [] μ) (x1 : Int32) (x2 : Int32) (x3 : Int32) (x4 : Int32) (x5 : Int32) (μ : MemT) (h : t_X9_word_12 K12 K124 P x1 x2 x3 x4 x5 μ) : V p l e (rmN 5 128) s m args below meth c E 6 0 0 (MQ below (va_Qi P (wdP E) (eA E s.heap.size)) args s 0 0 (eA E s.heap.size)) 12 [(0, .ref (eAd E 9)), (1, .int x1), (2, .int x2), (3, .int x3), (4, .int x4), (5, .int x5)] [] μ := by
  unfold t_X9_word_12 at h
  refine v_iload C 5 rfl dX9_word_12 ?_
  refine v_aload_n C 0 rfl rfl dX9_word_14 ?_
  refine gf_X9_197 C dX9_word_15 ?_
  refine v_icmp_ge C 64 (by decide) dX9_word_18 (fun q19 => ?_) (fun q19 => ?_)
  · replace h := h.1 q19
    refine v_aload_n C 0 rfl rfl dX9_word_64 ?_
    refine v_iload_n C 1 rfl rfl dX9_word_65 ?_
    refine v_iconst (v := (-1 : Int32)) C dX9_word_66 (by decide) ?_
    refine v_icmp_eq C 90 (by decide) dX9_word_67 (fun q7 => ?_) (fun q7 => ?_)
    · replace h := h.1 q7
      exact so_X9_word_90 C hr hK12 hK124 _ _ _ _ _ _ h
    · replace h := h.2 q7
      refine v_iload C 4 rfl dX9_word_70 ?_
      refine v_iconst (v := (-1 : Int32)) C dX9_word_72 (by decide) ?_
      refine v_icmp_eq C 86 (by decide) dX9_word_73 (fun q6 => ?_) (fun q6 => ?_)
      · replace h := h.1 q6
        exact so_X9_word_86 C hr hK12 hK124 _ _ _ _ _ _ h
      · replace h := h.2 q6
        refine v_iload_n C 2 rfl rfl dX9_word_76 ?_
        refine v_i2l C dX9_word_77 ?_
        refine v_lconst (v := (0 : Int64)) C dX9_word_78 (by decide) ?_
        refine v_lconst (v := (1 : Int64)) C dX9_word_79 (by decide) ?_
        obtain ⟨P1, hs, h⟩ := h
        refine v_callSi C [.long x2.toInt64, .long (0 : Int64), .long (1 : Int64)] (so_X9_isIn x2.toInt64 (0 : Int64) (1 : Int64) μ P1 hs) gw_X9_114 rfl rfl dd_X9_isIn ⟨by decide, by decide⟩ rfl rfl (Nat.le_of_ble_eq_true rfl) ⟨by decide, by decide⟩ dX9_word_80 (fun r4 μ2 q3 => ?_)
        replace h := h r4 μ2 q3
        refine v_if_ne C 90 (by decide) dX9_word_83 (fun q5 => ?_) (fun q5 => ?_)
        · replace h := h.1 q5
          exact so_X9_word_90 C hr hK12 hK124 _ _ _ _ _ _ h
        · replace h := h.2 q5
          exact so_X9_word_86 C hr hK12 hK124 _ _ _ _ _ _ h
  · replace h := h.2 q19
    refine v_aload_n C 0 rfl rfl dX9_word_21 ?_
    refine v_iload C 5 rfl dX9_word_22 ?_
    obtain ⟨P8, hs, h⟩ := h
    refine v_callVi C 9 [.int x5] (by decide) rfl rfl rfl (so_X9_isBlank x5 μ P8 hs) gw_X9_225 rfl rfl dd_X9_isBlank ⟨by decide, by decide⟩ rfl rfl (Nat.le_of_ble_eq_true rfl) ⟨by decide, by decide⟩ dX9_word_24 (fun r11 μ9 q10 => ?_)
    replace h := h r11 μ9 q10
    refine v_if_ne C 58 (by decide) dX9_word_27 (fun q18 => ?_) (fun q18 => ?_)
    · replace h := h.1 q18
      refine v_iinc (v := (x5 + 1)) C 5 [(5, .int (x5 + 1)), (0, .ref (eAd E 9)), (1, .int x1), (2, .int x2), (3, .int x3), (4, .int x4)] rfl rfl (by decide) rfl dX9_word_58 ?_
      refine v_goto C 12 (by decide) dX9_word_61 ?_
      refine v_sub C [1, 2, 3, 4, 5, 0] rfl ?_
      exact hK12 _ _ _ _ _ _ h
    · replace h := h.2 q18
      refine v_aload_n C 0 rfl rfl dX9_word_30 ?_
      refine v_iload C 5 rfl dX9_word_31 ?_
      refine v_iconst (v := (1 : Int32)) C dX9_word_33 (by decide) ?_
      refine v_isub C dX9_word_34 ?_
      obtain ⟨P12, hs, h⟩ := h
      refine v_callVi C 9 [.int (x5 - (1 : Int32))] (by decide) rfl rfl rfl (so_X9_isBlank (x5 - (1 : Int32)) μ9 P12 hs) gw_X9_225 rfl rfl dd_X9_isBlank ⟨by decide, by decide⟩ rfl rfl (Nat.le_of_ble_eq_true rfl) ⟨by decide, by decide⟩ dX9_word_35 (fun r15 μ13 q14 => ?_)
      replace h := h r15 μ13 q14
      refine v_if_eq C 58 (by decide) dX9_word_38 (fun q17 => ?_) (fun q17 => ?_)
      · replace h := h.1 q17
        refine v_iinc (v := (x5 + 1)) C 5 [(5, .int (x5 + 1)), (0, .ref (eAd E 9)), (1, .int x1), (2, .int x2), (3, .int x3), (4, .int x4)] rfl rfl (by decide) rfl dX9_word_58 ?_
        refine v_goto C 12 (by decide) dX9_word_61 ?_
        refine v_sub C [1, 2, 3, 4, 5, 0] rfl ?_
        exact hK12 _ _ _ _ _ _ h
      · replace h := h.2 q17
        refine v_iload_n C 3 rfl rfl dX9_word_41 ?_
        refine v_iload_n C 1 rfl rfl dX9_word_42 ?_
        refine v_icmp_ne C 51 (by decide) dX9_word_43 (fun q16 => ?_) (fun q16 => ?_)
        · replace h := h.1 q16
          refine v_iload C 4 rfl dX9_word_51 ?_
          refine v_istore C [(4, .int x4), (0, .ref (eAd E 9)), (1, .int x1), (2, .int x2), (3, .int x3), (5, .int x5)] (by decide) rfl dX9_word_53 ?_
          refine v_iinc (v := (x3 + 1)) C 4 [(3, .int (x3 + 1)), (4, .int x4), (0, .ref (eAd E 9)), (1, .int x1), (2, .int x2), (5, .int x5)] rfl rfl (by decide) rfl dX9_word_55 ?_
          refine v_iinc (v := (x5 + 1)) C 5 [(5, .int (x5 + 1)), (3, .int (x3 + 1)), (4, .int x4), (0, .ref (eAd E 9)), (1, .int x1), (2, .int x2)] rfl rfl (by decide) rfl dX9_word_58 ?_
          refine v_goto C 12 (by decide) dX9_word_61 ?_
          refine v_sub C [3, 4, 5, 1, 2, 0] rfl ?_
          exact hK12 _ _ _ _ _ _ h
        · replace h := h.2 q16
          refine v_iload C 5 rfl dX9_word_46 ?_
          refine v_goto C 53 (by decide) dX9_word_48 ?_
          refine v_istore C [(4, .int x5), (0, .ref (eAd E 9)), (1, .int x1), (2, .int x2), (3, .int x3), (5, .int x5)] (by decide) rfl dX9_word_53 ?_
          refine v_iinc (v := (x3 + 1)) C 4 [(3, .int (x3 + 1)), (4, .int x5), (0, .ref (eAd E 9)), (1, .int x1), (2, .int x2), (5, .int x5)] rfl rfl (by decide) rfl dX9_word_55 ?_
          refine v_iinc (v := (x5 + 1)) C 5 [(5, .int (x5 + 1)), (3, .int (x3 + 1)), (4, .int x5), (0, .ref (eAd E 9)), (1, .int x1), (2, .int x2)] rfl rfl (by decide) rfl dX9_word_58 ?_
          refine v_goto C 12 (by decide) dX9_word_61 ?_
          refine v_sub C [3, 4, 5, 1, 2, 0] rfl ?_
          exact hK12 _ _ _ _ _ _ h
set_option maxRecDepth 10000 in
set_option maxHeartbeats 4000000 in
theorem so_X9_word_0 {p : Program} {l : Launch} {e : Env} {s : State} {m : MethodId} {args : Array Value} {below : List Frame} {meth : Method} {c : Code} {E : EvT} {P : Int32 → MemT → Prop} (C : Cx p s m args meth c E cX9_word 6 RX9) (hr : meth.sig.returnType = (some .int)) {K12 : Int32 → Int32 → Int32 → Int32 → Int32 → MemT → Prop} (hK12 : ∀ (x1 : Int32) (x2 : Int32) (x3 : Int32) (x4 : Int32) (x5 : Int32) (μ : MemT), K12 x1 x2 x3 x4 x5 μ → V p l e (rmN 5 128) s m args below meth c E 6 0 0 (MQ below (va_Qi P (wdP E) (eA E s.heap.size)) args s 0 0 (eA E s.heap.size)) 12 [(0, .ref (eAd E 9)), (1, .int x1), (2, .int x2), (3, .int x3), (4, .int x4), (5, .int x5)] [] μ) {K124 : Int32 → Int32 → Int32 → Int32 → Int32 → MemT → Prop} (hK124 : ∀ (x1 : Int32) (x2 : Int32) (x3 : Int32) (x4 : Int32) (x5 : Int32) (μ : MemT), K124 x1 x2 x3 x4 x5 μ → V p l e (rmN 5 128) s m args below meth c E 6 0 0 (MQ below (va_Qi P (wdP E) (eA E s.heap.size)) args s 0 0 (eA E s.heap.size)) 124 [(0, .ref (eAd E 9)), (1, .int x1), (2, .int x2), (3, .int x3), (4, .int x4), (5, .int x5)] [] μ) (x1 : Int32) (x2 : Int32) (μ : MemT) (h : t_X9_word_0 K12 K124 P x1 x2 μ) : V p l e (rmN 5 128) s m args below meth c E 6 0 0 (MQ below (va_Qi P (wdP E) (eA E s.heap.size)) args s 0 0 (eA E s.heap.size)) 0 [(0, .ref (eAd E 9)), (1, .int x1), (2, .int x2)] [] μ := by
  unfold t_X9_word_0 at h
  refine v_aload_n C 0 rfl rfl dX9_word_0 ?_
  obtain ⟨P1, hs, h⟩ := h
  refine v_callVv C 9 [] (by decide) rfl rfl rfl (so_X9_look μ P1 hs) gw_X9_222 rfl rfl dd_X9_look ⟨by decide, by decide⟩ rfl rfl (Nat.le_of_ble_eq_true rfl) ⟨by decide, by decide⟩ dX9_word_1 (fun μ2 q3 => ?_)
  replace h := h μ2 q3
  refine v_iconst (v := (0 : Int32)) C dX9_word_4 (by decide) ?_
  refine v_istore_n C [(3, .int (0 : Int32)), (0, .ref (eAd E 9)), (1, .int x1), (2, .int x2)] rfl (by decide) rfl dX9_word_5 ?_
  refine v_iconst (v := (-1 : Int32)) C dX9_word_6 (by decide) ?_
  refine v_istore C [(4, .int (-1 : Int32)), (3, .int (0 : Int32)), (0, .ref (eAd E 9)), (1, .int x1), (2, .int x2)] (by decide) rfl dX9_word_7 ?_
  refine v_iconst (v := (0 : Int32)) C dX9_word_9 (by decide) ?_
  refine v_istore C [(5, .int (0 : Int32)), (4, .int (-1 : Int32)), (3, .int (0 : Int32)), (0, .ref (eAd E 9)), (1, .int x1), (2, .int x2)] (by decide) rfl dX9_word_10 ?_
  refine v_sub C [3, 4, 5, 2, 1, 0] rfl ?_
  exact hK12 _ _ _ _ _ _ h
set_option maxRecDepth 10000 in
set_option maxHeartbeats 4000000 in
theorem so_X9_word {l : Launch} {E : EvT} (x1 : Int32) (x2 : Int32) (μ : MemT) (P : Int32 → MemT → Prop) (h : sp_X9_word x1 x2 μ P) : MCi l E yX9_word cX9_word 6 (some .int) (rmN 5 128) [.ref (eAd E 9), .int x1, .int x2] μ P := by
  refine mc_entryi (by decide +kernel) (Nat.le_of_ble_eq_true rfl) (fun p e s m below meth c C hr => ?_)
  have h0 := h (fun x1_ x2_ x3_ x4_ x5_ μ => V p l e (rmN 5 128) s m ([.ref (eAd E 9), .int x1, .int x2] : List Value).toArray below meth c E 6 0 0 (MQ below (va_Qi P (wdP E) (eA E s.heap.size)) ([.ref (eAd E 9), .int x1, .int x2] : List Value).toArray s 0 0 (eA E s.heap.size)) 12 [(0, .ref (eAd E 9)), (1, .int x1_), (2, .int x2_), (3, .int x3_), (4, .int x4_), (5, .int x5_)] [] μ) (fun x1_ x2_ x3_ x4_ x5_ μ => V p l e (rmN 5 128) s m ([.ref (eAd E 9), .int x1, .int x2] : List Value).toArray below meth c E 6 0 0 (MQ below (va_Qi P (wdP E) (eA E s.heap.size)) ([.ref (eAd E 9), .int x1, .int x2] : List Value).toArray s 0 0 (eA E s.heap.size)) 124 [(0, .ref (eAd E 9)), (1, .int x1_), (2, .int x2_), (3, .int x3_), (4, .int x4_), (5, .int x5_)] [] μ) (fun x1 x2 x3 x4 x5 μ ht => so_X9_word_12 C hr (fun x1 x2 x3 x4 x5 μ hk => hk) (fun x1 x2 x3 x4 x5 μ hk => hk) x1 x2 x3 x4 x5 μ ht) (fun x1 x2 x3 x4 x5 μ ht => so_X9_word_124 C hr (fun x1 x2 x3 x4 x5 μ hk => hk) (fun x1 x2 x3 x4 x5 μ hk => hk) x1 x2 x3 x4 x5 μ ht) 
  exact so_X9_word_0 C hr (fun x1 x2 x3 x4 x5 μ hk => hk) (fun x1 x2 x3 x4 x5 μ hk => hk) x1 x2 μ h0
set_option maxRecDepth 10000 in
set_option maxHeartbeats 4000000 in
theorem so_X9_plain_0 {p : Program} {l : Launch} {e : Env} {s : State} {m : MethodId} {args : Array Value} {below : List Frame} {meth : Method} {c : Code} {E : EvT} {P : Int32 → MemT → Prop} (C : Cx p s m args meth c E cX9_plain 1 RX9) (hr : meth.sig.returnType = (some .int)) (x0 : Int32) (μ : MemT) (h : t_X9_plain_0 P x0 μ) : V p l e (rmN 0 0) s m args below meth c E 1 0 0 (MQ below (va_Qi P (wdP E) (eA E s.heap.size)) args s 0 0 (eA E s.heap.size)) 0 [(0, .int x0)] [] μ := by
  unfold t_X9_plain_0 at h
  refine v_iload_n C 0 rfl rfl dX9_plain_0 ?_
  refine v_bipush (v := (10 : Int32)) C dX9_plain_1 (by decide) ?_
  refine v_icmp_ne C 11 (by decide) dX9_plain_3 (fun q1 => ?_) (fun q1 => ?_)
  · replace h := h.1 q1
    refine v_iload_n C 0 rfl rfl dX9_plain_11 ?_
    exact v_iret C hr h dX9_plain_12
  · replace h := h.2 q1
    refine v_bipush (v := (32 : Int32)) C dX9_plain_6 (by decide) ?_
    refine v_goto C 12 (by decide) dX9_plain_8 ?_
    exact v_iret C hr h dX9_plain_12
set_option maxRecDepth 10000 in
set_option maxHeartbeats 4000000 in
theorem so_X9_plain {l : Launch} {E : EvT} (x0 : Int32) (μ : MemT) (P : Int32 → MemT → Prop) (h : sp_X9_plain x0 μ P) : MCi l E yX9_plain cX9_plain 1 (some .int) (rmN 0 0) [.int x0] μ P := by
  refine mc_entryi (by decide +kernel) (Nat.le_of_ble_eq_true rfl) (fun p e s m below meth c C hr => ?_)
  exact so_X9_plain_0 C hr x0 μ h
set_option maxRecDepth 10000 in
set_option maxHeartbeats 4000000 in
theorem so_X9_stands_49 {p : Program} {l : Launch} {e : Env} {s : State} {m : MethodId} {args : Array Value} {below : List Frame} {meth : Method} {c : Code} {E : EvT} {P : Int32 → MemT → Prop} (C : Cx p s m args meth c E cX9_stands 3 RX9) (hr : meth.sig.returnType = (some .boolean)) {K2 : Int32 → Int32 → MemT → Prop} (hK2 : ∀ (x1 : Int32) (x2 : Int32) (μ : MemT), K2 x1 x2 μ → V p l e (rmN 1 20) s m args below meth c E 3 0 0 (MQ below (va_Qi P (wdP E) (eA E s.heap.size)) args s 0 0 (eA E s.heap.size)) 2 [(0, .ref (eAd E 9)), (1, .int x1), (2, .int x2)] [] μ) (x1 : Int32) (x2 : Int32) (μ : MemT) (h : t_X9_stands_49 K2 P x1 x2 μ) : V p l e (rmN 1 20) s m args below meth c E 3 0 0 (MQ below (va_Qi P (wdP E) (eA E s.heap.size)) args s 0 0 (eA E s.heap.size)) 49 [(0, .ref (eAd E 9)), (1, .int x1), (2, .int x2)] [] μ := by
  unfold t_X9_stands_49 at h
  refine v_iload_n C 2 rfl rfl dX9_stands_49 ?_
  refine v_aload_n C 0 rfl rfl dX9_stands_50 ?_
  refine gf_X9_228 C dX9_stands_51 ?_
  refine v_icmp_ne C 61 (by decide) dX9_stands_54 (fun q1 => ?_) (fun q1 => ?_)
  · replace h := h.1 q1
    refine v_iconst (v := (0 : Int32)) C dX9_stands_61 (by decide) ?_
    exact v_zret C hr nb0 h dX9_stands_62
  · replace h := h.2 q1
    refine v_iconst (v := (1 : Int32)) C dX9_stands_57 (by decide) ?_
    refine v_goto C 62 (by decide) dX9_stands_58 ?_
    exact v_zret C hr nb1 h dX9_stands_62
set_option maxRecDepth 10000 in
set_option maxHeartbeats 4000000 in
theorem so_X9_stands_2 {p : Program} {l : Launch} {e : Env} {s : State} {m : MethodId} {args : Array Value} {below : List Frame} {meth : Method} {c : Code} {E : EvT} {P : Int32 → MemT → Prop} (C : Cx p s m args meth c E cX9_stands 3 RX9) (hr : meth.sig.returnType = (some .boolean)) {K2 : Int32 → Int32 → MemT → Prop} (hK2 : ∀ (x1 : Int32) (x2 : Int32) (μ : MemT), K2 x1 x2 μ → V p l e (rmN 1 20) s m args below meth c E 3 0 0 (MQ below (va_Qi P (wdP E) (eA E s.heap.size)) args s 0 0 (eA E s.heap.size)) 2 [(0, .ref (eAd E 9)), (1, .int x1), (2, .int x2)] [] μ) (x1 : Int32) (x2 : Int32) (μ : MemT) (h : t_X9_stands_2 K2 P x1 x2 μ) : V p l e (rmN 1 20) s m args below meth c E 3 0 0 (MQ below (va_Qi P (wdP E) (eA E s.heap.size)) args s 0 0 (eA E s.heap.size)) 2 [(0, .ref (eAd E 9)), (1, .int x1), (2, .int x2)] [] μ := by
  unfold t_X9_stands_2 at h
  refine v_iload_n C 2 rfl rfl dX9_stands_2 ?_
  refine v_aload_n C 0 rfl rfl dX9_stands_3 ?_
  refine gf_X9_228 C dX9_stands_4 ?_
  refine v_icmp_ge C 49 (by decide) dX9_stands_7 (fun q13 => ?_) (fun q13 => ?_)
  · replace h := h.1 q13
    exact so_X9_stands_49 C hr hK2 _ _ _ h
  · replace h := h.2 q13
    refine v_iload_n C 1 rfl rfl dX9_stands_10 ?_
    refine v_iload_n C 2 rfl rfl dX9_stands_11 ?_
    refine v_iadd C dX9_stands_12 ?_
    refine v_aload_n C 0 rfl rfl dX9_stands_13 ?_
    refine gf_X9_197 C dX9_stands_14 ?_
    refine v_icmp_ge C 49 (by decide) dX9_stands_17 (fun q12 => ?_) (fun q12 => ?_)
    · replace h := h.1 q12
      exact so_X9_stands_49 C hr hK2 _ _ _ h
    · replace h := h.2 q12
      refine v_aload_n C 0 rfl rfl dX9_stands_20 ?_
      refine gf_X9_93 C dX9_stands_21 ?_
      refine v_iload_n C 1 rfl rfl dX9_stands_24 ?_
      refine v_iload_n C 2 rfl rfl dX9_stands_25 ?_
      refine v_iadd C dX9_stands_26 ?_
      obtain ⟨b1, h⟩ := h
      refine v_iald C 72 (by decide) rfl b1 dX9_stands_27 ?_
      obtain ⟨P2, hs, h⟩ := h
      refine v_callSi C [.int (μ.1 72 (x1 + x2).toNatClampNeg)] (so_X9_plain (μ.1 72 (x1 + x2).toNatClampNeg) μ P2 hs) gw_X9_231 rfl rfl dd_X9_plain ⟨by decide, by decide⟩ rfl rfl (Nat.le_of_ble_eq_true rfl) ⟨by decide, by decide⟩ dX9_stands_28 (fun r5 μ3 q4 => ?_)
      replace h := h r5 μ3 q4
      refine v_aload_n C 0 rfl rfl dX9_stands_31 ?_
      refine gf_X9_99 C dX9_stands_32 ?_
      refine v_iload_n C 2 rfl rfl dX9_stands_35 ?_
      obtain ⟨b6, h⟩ := h
      refine v_iald C 74 (by decide) rfl b6 dX9_stands_36 ?_
      obtain ⟨P7, hs, h⟩ := h
      refine v_callSi C [.int (μ3.1 74 x2.toNatClampNeg)] (so_X9_plain (μ3.1 74 x2.toNatClampNeg) μ3 P7 hs) gw_X9_231 rfl rfl dd_X9_plain ⟨by decide, by decide⟩ rfl rfl (Nat.le_of_ble_eq_true rfl) ⟨by decide, by decide⟩ dX9_stands_37 (fun r10 μ8 q9 => ?_)
      replace h := h r10 μ8 q9
      refine v_icmp_ne C 49 (by decide) dX9_stands_40 (fun q11 => ?_) (fun q11 => ?_)
      · replace h := h.1 q11
        exact so_X9_stands_49 C hr hK2 _ _ _ h
      · replace h := h.2 q11
        refine v_iinc (v := (x2 + 1)) C 2 [(2, .int (x2 + 1)), (0, .ref (eAd E 9)), (1, .int x1)] rfl rfl (by decide) rfl dX9_stands_43 ?_
        refine v_goto C 2 (by decide) dX9_stands_46 ?_
        refine v_sub C [1, 2, 0] rfl ?_
        exact hK2 _ _ _ h
set_option maxRecDepth 10000 in
set_option maxHeartbeats 4000000 in
theorem so_X9_stands_0 {p : Program} {l : Launch} {e : Env} {s : State} {m : MethodId} {args : Array Value} {below : List Frame} {meth : Method} {c : Code} {E : EvT} {P : Int32 → MemT → Prop} (C : Cx p s m args meth c E cX9_stands 3 RX9) (hr : meth.sig.returnType = (some .boolean)) {K2 : Int32 → Int32 → MemT → Prop} (hK2 : ∀ (x1 : Int32) (x2 : Int32) (μ : MemT), K2 x1 x2 μ → V p l e (rmN 1 20) s m args below meth c E 3 0 0 (MQ below (va_Qi P (wdP E) (eA E s.heap.size)) args s 0 0 (eA E s.heap.size)) 2 [(0, .ref (eAd E 9)), (1, .int x1), (2, .int x2)] [] μ) (x1 : Int32) (μ : MemT) (h : t_X9_stands_0 K2 P x1 μ) : V p l e (rmN 1 20) s m args below meth c E 3 0 0 (MQ below (va_Qi P (wdP E) (eA E s.heap.size)) args s 0 0 (eA E s.heap.size)) 0 [(0, .ref (eAd E 9)), (1, .int x1)] [] μ := by
  unfold t_X9_stands_0 at h
  refine v_iconst (v := (0 : Int32)) C dX9_stands_0 (by decide) ?_
  refine v_istore_n C [(2, .int (0 : Int32)), (0, .ref (eAd E 9)), (1, .int x1)] rfl (by decide) rfl dX9_stands_1 ?_
  refine v_sub C [1, 2, 0] rfl ?_
  exact hK2 _ _ _ h
set_option maxRecDepth 10000 in
set_option maxHeartbeats 4000000 in
theorem so_X9_stands {l : Launch} {E : EvT} (x1 : Int32) (μ : MemT) (P : Int32 → MemT → Prop) (h : sp_X9_stands x1 μ P) : MCi l E yX9_stands cX9_stands 3 (some .boolean) (rmN 1 20) [.ref (eAd E 9), .int x1] μ P := by
  refine mc_entryi (by decide +kernel) (Nat.le_of_ble_eq_true rfl) (fun p e s m below meth c C hr => ?_)
  have h0 := h (fun x1_ x2_ μ => V p l e (rmN 1 20) s m ([.ref (eAd E 9), .int x1] : List Value).toArray below meth c E 3 0 0 (MQ below (va_Qi P (wdP E) (eA E s.heap.size)) ([.ref (eAd E 9), .int x1] : List Value).toArray s 0 0 (eA E s.heap.size)) 2 [(0, .ref (eAd E 9)), (1, .int x1_), (2, .int x2_)] [] μ) (fun x1 x2 μ ht => so_X9_stands_2 C hr (fun x1 x2 μ hk => hk) x1 x2 μ ht) 
  exact so_X9_stands_0 C hr (fun x1 x2 μ hk => hk) x1 μ h0
set_option maxRecDepth 10000 in
set_option maxHeartbeats 4000000 in
theorem so_X9_find_36 {p : Program} {l : Launch} {e : Env} {s : State} {m : MethodId} {args : Array Value} {below : List Frame} {meth : Method} {c : Code} {E : EvT} {P : Int32 → MemT → Prop} (C : Cx p s m args meth c E cX9_find 3 RX9) (hr : meth.sig.returnType = (some .int)) {K84 : Int32 → Int32 → MemT → Prop} (hK84 : ∀ (x1 : Int32) (x2 : Int32) (μ : MemT), K84 x1 x2 μ → V p l e (rmN 5 128) s m args below meth c E 3 0 0 (MQ below (va_Qi P (wdP E) (eA E s.heap.size)) args s 0 0 (eA E s.heap.size)) 84 [(0, .ref (eAd E 9)), (1, .int x1), (2, .int x2)] [] μ) (x1 : Int32) (y1 : Int32) (y2 : Int32) (μ : MemT) (h : t_X9_find_36 K84 P x1 y1 y2 μ) : V p l e (rmN 5 128) s m args below meth c E 3 0 0 (MQ below (va_Qi P (wdP E) (eA E s.heap.size)) args s 0 0 (eA E s.heap.size)) 36 [(0, .ref (eAd E 9)), (1, .int x1)] [.int y2, .int y1, .ref (eAd E 9)] μ := by
  unfold t_X9_find_36 at h
  obtain ⟨P1, hs, h⟩ := h
  refine v_callVi C 9 [.int y1, .int y2] (by decide) rfl rfl rfl (so_X9_refused y1 y2 μ P1 hs) gw_X9_124 rfl rfl dd_X9_refused ⟨by decide, by decide⟩ rfl rfl (Nat.le_of_ble_eq_true rfl) ⟨by decide, by decide⟩ dX9_find_36 (fun r4 μ2 q3 => ?_)
  replace h := h r4 μ2 q3
  refine v_if_eq C 44 (by decide) dX9_find_39 (fun q13 => ?_) (fun q13 => ?_)
  · replace h := h.1 q13
    refine v_iload_n C 1 rfl rfl dX9_find_44 ?_
    refine v_if_le C 73 (by decide) dX9_find_45 (fun q12 => ?_) (fun q12 => ?_)
    · replace h := h.1 q12
      refine v_aload_n C 0 rfl rfl dX9_find_73 ?_
      obtain ⟨P5, hs, h⟩ := h
      refine v_callVv C 9 [] (by decide) rfl rfl rfl (so_X9_look μ2 P5 hs) gw_X9_222 rfl rfl dd_X9_look ⟨by decide, by decide⟩ rfl rfl (Nat.le_of_ble_eq_true rfl) ⟨by decide, by decide⟩ dX9_find_74 (fun μ6 q7 => ?_)
      replace h := h μ6 q7
      refine v_aload_n C 0 rfl rfl dX9_find_77 ?_
      refine v_iconst (v := (0 : Int32)) C dX9_find_78 (by decide) ?_
      refine pf_X9_234 C dX9_find_79 ?_
      refine v_nmM (fun μ8 e_μ8 => ?_)
      replace h := h μ8 e_μ8
      refine v_iconst (v := (0 : Int32)) C dX9_find_82 (by decide) ?_
      refine v_istore_n C [(2, .int (0 : Int32)), (0, .ref (eAd E 9)), (1, .int x1)] rfl (by decide) rfl dX9_find_83 ?_
      refine v_sub C [1, 2, 0] rfl ?_
      exact hK84 _ _ _ h
    · replace h := h.2 q12
      refine v_aload_n C 0 rfl rfl dX9_find_48 ?_
      refine gf_X9_99 C dX9_find_49 ?_
      refine v_aload_n C 0 rfl rfl dX9_find_52 ?_
      refine gf_X9_228 C dX9_find_53 ?_
      refine v_iload_n C 1 rfl rfl dX9_find_56 ?_
      obtain ⟨b9, h⟩ := h
      refine v_iast C 74 (by decide) rfl b9 dX9_find_57 ?_
      refine v_nmM (fun μ10 e_μ10 => ?_)
      replace h := h μ10 e_μ10
      refine v_aload_n C 0 rfl rfl dX9_find_58 ?_
      refine v_dup C rfl dX9_find_59 ?_
      refine gf_X9_228 C dX9_find_60 ?_
      refine v_iconst (v := (1 : Int32)) C dX9_find_63 (by decide) ?_
      refine v_iadd C dX9_find_64 ?_
      refine pf_X9_228 C dX9_find_65 ?_
      refine v_nmM (fun μ11 e_μ11 => ?_)
      replace h := h μ11 e_μ11
      refine v_aload_n C 0 rfl rfl dX9_find_68 ?_
      refine gf_X9_228 C dX9_find_69 ?_
      exact v_iret C hr h dX9_find_72
  · replace h := h.2 q13
    refine v_iconst (v := (0 : Int32)) C dX9_find_42 (by decide) ?_
    exact v_iret C hr h dX9_find_43
set_option maxRecDepth 10000 in
set_option maxHeartbeats 4000000 in
theorem so_X9_find_35 {p : Program} {l : Launch} {e : Env} {s : State} {m : MethodId} {args : Array Value} {below : List Frame} {meth : Method} {c : Code} {E : EvT} {P : Int32 → MemT → Prop} (C : Cx p s m args meth c E cX9_find 3 RX9) (hr : meth.sig.returnType = (some .int)) {K84 : Int32 → Int32 → MemT → Prop} (hK84 : ∀ (x1 : Int32) (x2 : Int32) (μ : MemT), K84 x1 x2 μ → V p l e (rmN 5 128) s m args below meth c E 3 0 0 (MQ below (va_Qi P (wdP E) (eA E s.heap.size)) args s 0 0 (eA E s.heap.size)) 84 [(0, .ref (eAd E 9)), (1, .int x1), (2, .int x2)] [] μ) (x1 : Int32) (y1 : Int32) (μ : MemT) (h : t_X9_find_35 K84 P x1 y1 μ) : V p l e (rmN 5 128) s m args below meth c E 3 0 0 (MQ below (va_Qi P (wdP E) (eA E s.heap.size)) args s 0 0 (eA E s.heap.size)) 35 [(0, .ref (eAd E 9)), (1, .int x1)] [.int y1, .ref (eAd E 9)] μ := by
  unfold t_X9_find_35 at h
  refine v_iconst (v := (0 : Int32)) C dX9_find_35 (by decide) ?_
  exact so_X9_find_36 C hr hK84 _ _ _ _ h
set_option maxRecDepth 10000 in
set_option maxHeartbeats 4000000 in
theorem so_X9_find_18 {p : Program} {l : Launch} {e : Env} {s : State} {m : MethodId} {args : Array Value} {below : List Frame} {meth : Method} {c : Code} {E : EvT} {P : Int32 → MemT → Prop} (C : Cx p s m args meth c E cX9_find 3 RX9) (hr : meth.sig.returnType = (some .int)) {K84 : Int32 → Int32 → MemT → Prop} (hK84 : ∀ (x1 : Int32) (x2 : Int32) (μ : MemT), K84 x1 x2 μ → V p l e (rmN 5 128) s m args below meth c E 3 0 0 (MQ below (va_Qi P (wdP E) (eA E s.heap.size)) args s 0 0 (eA E s.heap.size)) 84 [(0, .ref (eAd E 9)), (1, .int x1), (2, .int x2)] [] μ) (x1 : Int32) (y1 : Int32) (μ : MemT) (h : t_X9_find_18 K84 P x1 y1 μ) : V p l e (rmN 5 128) s m args below meth c E 3 0 0 (MQ below (va_Qi P (wdP E) (eA E s.heap.size)) args s 0 0 (eA E s.heap.size)) 18 [(0, .ref (eAd E 9)), (1, .int x1)] [.int y1, .ref (eAd E 9)] μ := by
  unfold t_X9_find_18 at h
  refine v_iload_n C 1 rfl rfl dX9_find_18 ?_
  refine v_if_le C 35 (by decide) dX9_find_19 (fun q2 => ?_) (fun q2 => ?_)
  · replace h := h.1 q2
    exact so_X9_find_35 C hr hK84 _ _ _ h
  · replace h := h.2 q2
    refine v_aload_n C 0 rfl rfl dX9_find_22 ?_
    refine gf_X9_228 C dX9_find_23 ?_
    refine v_bipush (v := (20 : Int32)) C dX9_find_26 (by decide) ?_
    refine v_icmp_ne C 35 (by decide) dX9_find_28 (fun q1 => ?_) (fun q1 => ?_)
    · replace h := h.1 q1
      exact so_X9_find_35 C hr hK84 _ _ _ h
    · replace h := h.2 q1
      refine v_iconst (v := (1 : Int32)) C dX9_find_31 (by decide) ?_
      refine v_goto C 36 (by decide) dX9_find_32 ?_
      exact so_X9_find_36 C hr hK84 _ _ _ _ h
set_option maxRecDepth 10000 in
set_option maxHeartbeats 4000000 in
theorem so_X9_find_84 {p : Program} {l : Launch} {e : Env} {s : State} {m : MethodId} {args : Array Value} {below : List Frame} {meth : Method} {c : Code} {E : EvT} {P : Int32 → MemT → Prop} (C : Cx p s m args meth c E cX9_find 3 RX9) (hr : meth.sig.returnType = (some .int)) {K84 : Int32 → Int32 → MemT → Prop} (hK84 : ∀ (x1 : Int32) (x2 : Int32) (μ : MemT), K84 x1 x2 μ → V p l e (rmN 5 128) s m args below meth c E 3 0 0 (MQ below (va_Qi P (wdP E) (eA E s.heap.size)) args s 0 0 (eA E s.heap.size)) 84 [(0, .ref (eAd E 9)), (1, .int x1), (2, .int x2)] [] μ) (x1 : Int32) (x2 : Int32) (μ : MemT) (h : t_X9_find_84 K84 P x1 x2 μ) : V p l e (rmN 5 128) s m args below meth c E 3 0 0 (MQ below (va_Qi P (wdP E) (eA E s.heap.size)) args s 0 0 (eA E s.heap.size)) 84 [(0, .ref (eAd E 9)), (1, .int x1), (2, .int x2)] [] μ := by
  unfold t_X9_find_84 at h
  refine v_iload_n C 2 rfl rfl dX9_find_84 ?_
  refine v_aload_n C 0 rfl rfl dX9_find_85 ?_
  refine gf_X9_197 C dX9_find_86 ?_
  refine v_icmp_ge C 133 (by decide) dX9_find_89 (fun q12 => ?_) (fun q12 => ?_)
  · replace h := h.1 q12
    refine v_aload_n C 0 rfl rfl dX9_find_133 ?_
    refine v_iconst (v := (0 : Int32)) C dX9_find_134 (by decide) ?_
    refine pf_X9_228 C dX9_find_135 ?_
    refine v_nmM (fun μ1 e_μ1 => ?_)
    replace h := h μ1 e_μ1
    refine v_aload_n C 0 rfl rfl dX9_find_138 ?_
    refine gf_X9_234 C dX9_find_139 ?_
    exact v_iret C hr h dX9_find_142
  · replace h := h.2 q12
    refine v_aload_n C 0 rfl rfl dX9_find_92 ?_
    refine gf_X9_228 C dX9_find_93 ?_
    refine v_if_le C 133 (by decide) dX9_find_96 (fun q11 => ?_) (fun q11 => ?_)
    · replace h := h.1 q11
      refine v_aload_n C 0 rfl rfl dX9_find_133 ?_
      refine v_iconst (v := (0 : Int32)) C dX9_find_134 (by decide) ?_
      refine pf_X9_228 C dX9_find_135 ?_
      refine v_nmM (fun μ2 e_μ2 => ?_)
      replace h := h μ2 e_μ2
      refine v_aload_n C 0 rfl rfl dX9_find_138 ?_
      refine gf_X9_234 C dX9_find_139 ?_
      exact v_iret C hr h dX9_find_142
    · replace h := h.2 q11
      refine v_aload_n C 0 rfl rfl dX9_find_99 ?_
      refine v_iload_n C 2 rfl rfl dX9_find_100 ?_
      obtain ⟨P3, hs, h⟩ := h
      refine v_callVi C 9 [.int x2] (by decide) rfl rfl rfl (so_X9_stands x2 μ P3 hs) gw_X9_237 rfl rfl dd_X9_stands ⟨by decide, by decide⟩ rfl rfl (Nat.le_of_ble_eq_true rfl) ⟨by decide, by decide⟩ dX9_find_101 (fun r6 μ4 q5 => ?_)
      replace h := h r6 μ4 q5
      refine v_if_eq C 127 (by decide) dX9_find_104 (fun q10 => ?_) (fun q10 => ?_)
      · replace h := h.1 q10
        refine v_iinc (v := (x2 + 1)) C 2 [(2, .int (x2 + 1)), (0, .ref (eAd E 9)), (1, .int x1)] rfl rfl (by decide) rfl dX9_find_127 ?_
        refine v_goto C 84 (by decide) dX9_find_130 ?_
        refine v_sub C [1, 2, 0] rfl ?_
        exact hK84 _ _ _ h
      · replace h := h.2 q10
        refine v_aload_n C 0 rfl rfl dX9_find_107 ?_
        refine gf_X9_102 C dX9_find_108 ?_
        refine v_aload_n C 0 rfl rfl dX9_find_111 ?_
        refine gf_X9_234 C dX9_find_112 ?_
        refine v_iload_n C 2 rfl rfl dX9_find_115 ?_
        obtain ⟨b7, h⟩ := h
        refine v_iast C 75 (by decide) rfl b7 dX9_find_116 ?_
        refine v_nmM (fun μ8 e_μ8 => ?_)
        replace h := h μ8 e_μ8
        refine v_aload_n C 0 rfl rfl dX9_find_117 ?_
        refine v_dup C rfl dX9_find_118 ?_
        refine gf_X9_234 C dX9_find_119 ?_
        refine v_iconst (v := (1 : Int32)) C dX9_find_122 (by decide) ?_
        refine v_iadd C dX9_find_123 ?_
        refine pf_X9_234 C dX9_find_124 ?_
        refine v_nmM (fun μ9 e_μ9 => ?_)
        replace h := h μ9 e_μ9
        refine v_iinc (v := (x2 + 1)) C 2 [(2, .int (x2 + 1)), (0, .ref (eAd E 9)), (1, .int x1)] rfl rfl (by decide) rfl dX9_find_127 ?_
        refine v_goto C 84 (by decide) dX9_find_130 ?_
        refine v_sub C [1, 2, 0] rfl ?_
        exact hK84 _ _ _ h
set_option maxRecDepth 10000 in
set_option maxHeartbeats 4000000 in
theorem so_X9_find_0 {p : Program} {l : Launch} {e : Env} {s : State} {m : MethodId} {args : Array Value} {below : List Frame} {meth : Method} {c : Code} {E : EvT} {P : Int32 → MemT → Prop} (C : Cx p s m args meth c E cX9_find 3 RX9) (hr : meth.sig.returnType = (some .int)) {K84 : Int32 → Int32 → MemT → Prop} (hK84 : ∀ (x1 : Int32) (x2 : Int32) (μ : MemT), K84 x1 x2 μ → V p l e (rmN 5 128) s m args below meth c E 3 0 0 (MQ below (va_Qi P (wdP E) (eA E s.heap.size)) args s 0 0 (eA E s.heap.size)) 84 [(0, .ref (eAd E 9)), (1, .int x1), (2, .int x2)] [] μ) (x1 : Int32) (μ : MemT) (h : t_X9_find_0 K84 P x1 μ) : V p l e (rmN 5 128) s m args below meth c E 3 0 0 (MQ below (va_Qi P (wdP E) (eA E s.heap.size)) args s 0 0 (eA E s.heap.size)) 0 [(0, .ref (eAd E 9)), (1, .int x1)] [] μ := by
  unfold t_X9_find_0 at h
  refine v_aload_n C 0 rfl rfl dX9_find_0 ?_
  refine v_iload_n C 1 rfl rfl dX9_find_1 ?_
  refine v_i2l C dX9_find_2 ?_
  refine v_lconst (v := (0 : Int64)) C dX9_find_3 (by decide) ?_
  refine v_ldc2 C gc_X9_136 dX9_find_4 ?_
  obtain ⟨P1, hs, h⟩ := h
  refine v_callSi C [.long x1.toInt64, .long (0 : Int64), .long (65535 : Int64)] (so_X9_isIn x1.toInt64 (0 : Int64) (65535 : Int64) μ P1 hs) gw_X9_114 rfl rfl dd_X9_isIn ⟨by decide, by decide⟩ rfl rfl (Nat.le_of_ble_eq_true rfl) ⟨by decide, by decide⟩ dX9_find_7 (fun r4 μ2 q3 => ?_)
  replace h := h r4 μ2 q3
  refine v_if_ne C 17 (by decide) dX9_find_10 (fun q5 => ?_) (fun q5 => ?_)
  · replace h := h.1 q5
    refine v_iconst (v := (0 : Int32)) C dX9_find_17 (by decide) ?_
    exact so_X9_find_18 C hr hK84 _ _ _ h
  · replace h := h.2 q5
    refine v_iconst (v := (1 : Int32)) C dX9_find_13 (by decide) ?_
    refine v_goto C 18 (by decide) dX9_find_14 ?_
    exact so_X9_find_18 C hr hK84 _ _ _ h
set_option maxRecDepth 10000 in
set_option maxHeartbeats 4000000 in
theorem so_X9_find {l : Launch} {E : EvT} (x1 : Int32) (μ : MemT) (P : Int32 → MemT → Prop) (h : sp_X9_find x1 μ P) : MCi l E yX9_find cX9_find 3 (some .int) (rmN 5 128) [.ref (eAd E 9), .int x1] μ P := by
  refine mc_entryi (by decide +kernel) (Nat.le_of_ble_eq_true rfl) (fun p e s m below meth c C hr => ?_)
  have h0 := h (fun x1_ x2_ μ => V p l e (rmN 5 128) s m ([.ref (eAd E 9), .int x1] : List Value).toArray below meth c E 3 0 0 (MQ below (va_Qi P (wdP E) (eA E s.heap.size)) ([.ref (eAd E 9), .int x1] : List Value).toArray s 0 0 (eA E s.heap.size)) 84 [(0, .ref (eAd E 9)), (1, .int x1_), (2, .int x2_)] [] μ) (fun x1 x2 μ ht => so_X9_find_84 C hr (fun x1 x2 μ hk => hk) x1 x2 μ ht) 
  exact so_X9_find_0 C hr (fun x1 x2 μ hk => hk) x1 μ h0
set_option maxRecDepth 10000 in
set_option maxHeartbeats 4000000 in
theorem so_X9_found_18 {p : Program} {l : Launch} {e : Env} {s : State} {m : MethodId} {args : Array Value} {below : List Frame} {meth : Method} {c : Code} {E : EvT} {P : Int32 → MemT → Prop} (C : Cx p s m args meth c E cX9_found 2 RX9) (hr : meth.sig.returnType = (some .int)) (x1 : Int32) (y1 : Int32) (μ : MemT) (h : t_X9_found_18 P x1 y1 μ) : V p l e (rmN 1 22) s m args below meth c E 2 0 0 (MQ below (va_Qi P (wdP E) (eA E s.heap.size)) args s 0 0 (eA E s.heap.size)) 18 [(0, .ref (eAd E 9)), (1, .int x1)] [.int y1, .ref (eAd E 9)] μ := by
  unfold t_X9_found_18 at h
  refine v_iconst (v := (0 : Int32)) C dX9_found_18 (by decide) ?_
  obtain ⟨P1, hs, h⟩ := h
  refine v_callVi C 9 [.int y1, .int (0 : Int32)] (by decide) rfl rfl rfl (so_X9_refused y1 (0 : Int32) μ P1 hs) gw_X9_124 rfl rfl dd_X9_refused ⟨by decide, by decide⟩ rfl rfl (Nat.le_of_ble_eq_true rfl) ⟨by decide, by decide⟩ dX9_found_19 (fun r4 μ2 q3 => ?_)
  replace h := h r4 μ2 q3
  refine v_if_eq C 29 (by decide) dX9_found_22 (fun q6 => ?_) (fun q6 => ?_)
  · replace h := h.1 q6
    refine v_aload_n C 0 rfl rfl dX9_found_29 ?_
    refine gf_X9_102 C dX9_found_30 ?_
    refine v_iload_n C 1 rfl rfl dX9_found_33 ?_
    obtain ⟨b5, h⟩ := h
    refine v_iald C 75 (by decide) rfl b5 dX9_found_34 ?_
    exact v_iret C hr h dX9_found_35
  · replace h := h.2 q6
    refine v_iconst (v := (0 : Int32)) C dX9_found_25 (by decide) ?_
    refine v_goto C 35 (by decide) dX9_found_26 ?_
    exact v_iret C hr h dX9_found_35
set_option maxRecDepth 10000 in
set_option maxHeartbeats 4000000 in
theorem so_X9_found_13 {p : Program} {l : Launch} {e : Env} {s : State} {m : MethodId} {args : Array Value} {below : List Frame} {meth : Method} {c : Code} {E : EvT} {P : Int32 → MemT → Prop} (C : Cx p s m args meth c E cX9_found 2 RX9) (hr : meth.sig.returnType = (some .int)) (x1 : Int32) (μ : MemT) (h : t_X9_found_13 P x1 μ) : V p l e (rmN 1 22) s m args below meth c E 2 0 0 (MQ below (va_Qi P (wdP E) (eA E s.heap.size)) args s 0 0 (eA E s.heap.size)) 13 [(0, .ref (eAd E 9)), (1, .int x1)] [.ref (eAd E 9)] μ := by
  unfold t_X9_found_13 at h
  refine v_iconst (v := (1 : Int32)) C dX9_found_13 (by decide) ?_
  refine v_goto C 18 (by decide) dX9_found_14 ?_
  exact so_X9_found_18 C hr _ _ _ h
set_option maxRecDepth 10000 in
set_option maxHeartbeats 4000000 in
theorem so_X9_found_0 {p : Program} {l : Launch} {e : Env} {s : State} {m : MethodId} {args : Array Value} {below : List Frame} {meth : Method} {c : Code} {E : EvT} {P : Int32 → MemT → Prop} (C : Cx p s m args meth c E cX9_found 2 RX9) (hr : meth.sig.returnType = (some .int)) (x1 : Int32) (μ : MemT) (h : t_X9_found_0 P x1 μ) : V p l e (rmN 1 22) s m args below meth c E 2 0 0 (MQ below (va_Qi P (wdP E) (eA E s.heap.size)) args s 0 0 (eA E s.heap.size)) 0 [(0, .ref (eAd E 9)), (1, .int x1)] [] μ := by
  unfold t_X9_found_0 at h
  refine v_aload_n C 0 rfl rfl dX9_found_0 ?_
  refine v_iload_n C 1 rfl rfl dX9_found_1 ?_
  refine v_if_lt C 13 (by decide) dX9_found_2 (fun q2 => ?_) (fun q2 => ?_)
  · replace h := h.1 q2
    exact so_X9_found_13 C hr _ _ h
  · replace h := h.2 q2
    refine v_iload_n C 1 rfl rfl dX9_found_5 ?_
    refine v_aload_n C 0 rfl rfl dX9_found_6 ?_
    refine gf_X9_234 C dX9_found_7 ?_
    refine v_icmp_lt C 17 (by decide) dX9_found_10 (fun q1 => ?_) (fun q1 => ?_)
    · replace h := h.1 q1
      refine v_iconst (v := (0 : Int32)) C dX9_found_17 (by decide) ?_
      exact so_X9_found_18 C hr _ _ _ h
    · replace h := h.2 q1
      exact so_X9_found_13 C hr _ _ h
set_option maxRecDepth 10000 in
set_option maxHeartbeats 4000000 in
theorem so_X9_found {l : Launch} {E : EvT} (x1 : Int32) (μ : MemT) (P : Int32 → MemT → Prop) (h : sp_X9_found x1 μ P) : MCi l E yX9_found cX9_found 2 (some .int) (rmN 1 22) [.ref (eAd E 9), .int x1] μ P := by
  refine mc_entryi (by decide +kernel) (Nat.le_of_ble_eq_true rfl) (fun p e s m below meth c C hr => ?_)
  exact so_X9_found_0 C hr x1 μ h
set_option maxRecDepth 10000 in
set_option maxHeartbeats 4000000 in
theorem so_X9_area_15 {p : Program} {l : Launch} {e : Env} {s : State} {m : MethodId} {args : Array Value} {below : List Frame} {meth : Method} {c : Code} {E : EvT} {P : Int32 → MemT → Prop} (C : Cx p s m args meth c E cX9_area 12 RX9) (hr : meth.sig.returnType = (some .int)) {K15 : Int64 → Int64 → Int64 → Int64 → Int32 → Int32 → MemT → Prop} (hK15 : ∀ (x1 : Int64) (x3 : Int64) (x5 : Int64) (x7 : Int64) (x9 : Int32) (x10 : Int32) (μ : MemT), K15 x1 x3 x5 x7 x9 x10 μ → V p l e (rmN 5 128) s m args below meth c E 12 0 0 (MQ below (va_Qi P (wdP E) (eA E s.heap.size)) args s 0 0 (eA E s.heap.size)) 15 [(0, .ref (eAd E 9)), (1, .long x1), (3, .long x3), (5, .long x5), (7, .long x7), (9, .int x9), (10, .int x10)] [] μ) (x1 : Int64) (x3 : Int64) (x5 : Int64) (x7 : Int64) (x9 : Int32) (x10 : Int32) (μ : MemT) (h : t_X9_area_15 K15 P x1 x3 x5 x7 x9 x10 μ) : V p l e (rmN 5 128) s m args below meth c E 12 0 0 (MQ below (va_Qi P (wdP E) (eA E s.heap.size)) args s 0 0 (eA E s.heap.size)) 15 [(0, .ref (eAd E 9)), (1, .long x1), (3, .long x3), (5, .long x5), (7, .long x7), (9, .int x9), (10, .int x10)] [] μ := by
  unfold t_X9_area_15 at h
  refine v_iload C 6 rfl dX9_area_15 ?_
  refine v_aload_n C 0 rfl rfl dX9_area_17 ?_
  refine gf_X9_197 C dX9_area_18 ?_
  refine v_icmp_ge C 87 (by decide) dX9_area_21 (fun q15 => ?_) (fun q15 => ?_)
  · replace h := h.1 q15
    refine v_iload C 5 rfl dX9_area_87 ?_
    exact v_iret C hr h dX9_area_89
  · replace h := h.2 q15
    refine v_aload_n C 0 rfl rfl dX9_area_24 ?_
    refine gf_X9_96 C dX9_area_25 ?_
    refine v_iload C 6 rfl dX9_area_28 ?_
    obtain ⟨b1, h⟩ := h
    refine v_iald C 73 (by decide) rfl b1 dX9_area_30 ?_
    refine v_istore C [(11, .int (μ.1 73 x10.toNatClampNeg)), (0, .ref (eAd E 9)), (1, .long x1), (3, .long x3), (5, .long x5), (7, .long x7), (9, .int x9), (10, .int x10)] (by decide) rfl dX9_area_31 ?_
    refine v_iload C 6 rfl dX9_area_33 ?_
    refine v_iload C 0 rfl dX9_area_35 ?_
    refine v_iconst (v := (-1 : Int32)) C dX9_area_37 (by decide) ?_
    refine v_icmp_eq C 77 (by decide) dX9_area_38 (fun q14 => ?_) (fun q14 => ?_)
    · replace h := h.1 q14
      refine v_iconst (v := (0 : Int32)) C dX9_area_77 (by decide) ?_
      refine v_iadd C dX9_area_78 ?_
      refine v_istore C [(9, .int (x9 + (0 : Int32))), (11, .int (μ.1 73 x10.toNatClampNeg)), (0, .ref (eAd E 9)), (1, .long x1), (3, .long x3), (5, .long x5), (7, .long x7), (10, .int x10)] (by decide) rfl dX9_area_79 ?_
      refine v_iinc (v := (x10 + 1)) C 7 [(10, .int (x10 + 1)), (9, .int (x9 + (0 : Int32))), (11, .int (μ.1 73 x10.toNatClampNeg)), (0, .ref (eAd E 9)), (1, .long x1), (3, .long x3), (5, .long x5), (7, .long x7)] rfl rfl (by decide) rfl dX9_area_81 ?_
      refine v_goto C 15 (by decide) dX9_area_84 ?_
      refine v_sub C [3, 4, 5, 6, 7, 1, 0] rfl ?_
      exact hK15 _ _ _ _ _ _ _ h
    · replace h := h.2 q14
      refine v_aload_n C 1 rfl rfl dX9_area_41 ?_
      refine gf_X9_13 C dX9_area_42 ?_
      refine v_iload C 0 rfl dX9_area_45 ?_
      obtain ⟨b2, h⟩ := h
      refine v_lald C 46 (by decide) rfl b2 dX9_area_47 ?_
      refine v_lload_n C 2 rfl rfl dX9_area_48 ?_
      refine v_lload C 4 rfl dX9_area_49 ?_
      obtain ⟨P3, hs, h⟩ := h
      refine v_callSi C [.long (μ.2.1 46 (μ.1 73 x10.toNatClampNeg).toNatClampNeg), .long x1, .long x5] (so_X9_isIn (μ.2.1 46 (μ.1 73 x10.toNatClampNeg).toNatClampNeg) x1 x5 μ P3 hs) gw_X9_114 rfl rfl dd_X9_isIn ⟨by decide, by decide⟩ rfl rfl (Nat.le_of_ble_eq_true rfl) ⟨by decide, by decide⟩ dX9_area_51 (fun r6 μ4 q5 => ?_)
      replace h := h r6 μ4 q5
      refine v_if_eq C 77 (by decide) dX9_area_54 (fun q13 => ?_) (fun q13 => ?_)
      · replace h := h.1 q13
        refine v_iconst (v := (0 : Int32)) C dX9_area_77 (by decide) ?_
        refine v_iadd C dX9_area_78 ?_
        refine v_istore C [(9, .int (x9 + (0 : Int32))), (11, .int (μ.1 73 x10.toNatClampNeg)), (0, .ref (eAd E 9)), (1, .long x1), (3, .long x3), (5, .long x5), (7, .long x7), (10, .int x10)] (by decide) rfl dX9_area_79 ?_
        refine v_iinc (v := (x10 + 1)) C 7 [(10, .int (x10 + 1)), (9, .int (x9 + (0 : Int32))), (11, .int (μ.1 73 x10.toNatClampNeg)), (0, .ref (eAd E 9)), (1, .long x1), (3, .long x3), (5, .long x5), (7, .long x7)] rfl rfl (by decide) rfl dX9_area_81 ?_
        refine v_goto C 15 (by decide) dX9_area_84 ?_
        refine v_sub C [3, 4, 5, 6, 7, 1, 0] rfl ?_
        exact hK15 _ _ _ _ _ _ _ h
      · replace h := h.2 q13
        refine v_aload_n C 1 rfl rfl dX9_area_57 ?_
        refine gf_X9_17 C dX9_area_58 ?_
        refine v_iload C 0 rfl dX9_area_61 ?_
        obtain ⟨b7, h⟩ := h
        refine v_lald C 47 (by decide) rfl b7 dX9_area_63 ?_
        refine v_lload_n C 3 rfl rfl dX9_area_64 ?_
        refine v_lload C 5 rfl dX9_area_65 ?_
        obtain ⟨P8, hs, h⟩ := h
        refine v_callSi C [.long (μ4.2.1 47 (μ.1 73 x10.toNatClampNeg).toNatClampNeg), .long x3, .long x7] (so_X9_isIn (μ4.2.1 47 (μ.1 73 x10.toNatClampNeg).toNatClampNeg) x3 x7 μ4 P8 hs) gw_X9_114 rfl rfl dd_X9_isIn ⟨by decide, by decide⟩ rfl rfl (Nat.le_of_ble_eq_true rfl) ⟨by decide, by decide⟩ dX9_area_67 (fun r11 μ9 q10 => ?_)
        replace h := h r11 μ9 q10
        refine v_if_eq C 77 (by decide) dX9_area_70 (fun q12 => ?_) (fun q12 => ?_)
        · replace h := h.1 q12
          refine v_iconst (v := (0 : Int32)) C dX9_area_77 (by decide) ?_
          refine v_iadd C dX9_area_78 ?_
          refine v_istore C [(9, .int (x9 + (0 : Int32))), (11, .int (μ.1 73 x10.toNatClampNeg)), (0, .ref (eAd E 9)), (1, .long x1), (3, .long x3), (5, .long x5), (7, .long x7), (10, .int x10)] (by decide) rfl dX9_area_79 ?_
          refine v_iinc (v := (x10 + 1)) C 7 [(10, .int (x10 + 1)), (9, .int (x9 + (0 : Int32))), (11, .int (μ.1 73 x10.toNatClampNeg)), (0, .ref (eAd E 9)), (1, .long x1), (3, .long x3), (5, .long x5), (7, .long x7)] rfl rfl (by decide) rfl dX9_area_81 ?_
          refine v_goto C 15 (by decide) dX9_area_84 ?_
          refine v_sub C [3, 4, 5, 6, 7, 1, 0] rfl ?_
          exact hK15 _ _ _ _ _ _ _ h
        · replace h := h.2 q12
          refine v_iconst (v := (1 : Int32)) C dX9_area_73 (by decide) ?_
          refine v_goto C 78 (by decide) dX9_area_74 ?_
          refine v_iadd C dX9_area_78 ?_
          refine v_istore C [(9, .int (x9 + (1 : Int32))), (11, .int (μ.1 73 x10.toNatClampNeg)), (0, .ref (eAd E 9)), (1, .long x1), (3, .long x3), (5, .long x5), (7, .long x7), (10, .int x10)] (by decide) rfl dX9_area_79 ?_
          refine v_iinc (v := (x10 + 1)) C 7 [(10, .int (x10 + 1)), (9, .int (x9 + (1 : Int32))), (11, .int (μ.1 73 x10.toNatClampNeg)), (0, .ref (eAd E 9)), (1, .long x1), (3, .long x3), (5, .long x5), (7, .long x7)] rfl rfl (by decide) rfl dX9_area_81 ?_
          refine v_goto C 15 (by decide) dX9_area_84 ?_
          refine v_sub C [3, 4, 5, 6, 7, 1, 0] rfl ?_
          exact hK15 _ _ _ _ _ _ _ h
set_option maxRecDepth 10000 in
set_option maxHeartbeats 4000000 in
theorem so_X9_area_0 {p : Program} {l : Launch} {e : Env} {s : State} {m : MethodId} {args : Array Value} {below : List Frame} {meth : Method} {c : Code} {E : EvT} {P : Int32 → MemT → Prop} (C : Cx p s m args meth c E cX9_area 12 RX9) (hr : meth.sig.returnType = (some .int)) {K15 : Int64 → Int64 → Int64 → Int64 → Int32 → Int32 → MemT → Prop} (hK15 : ∀ (x1 : Int64) (x3 : Int64) (x5 : Int64) (x7 : Int64) (x9 : Int32) (x10 : Int32) (μ : MemT), K15 x1 x3 x5 x7 x9 x10 μ → V p l e (rmN 5 128) s m args below meth c E 12 0 0 (MQ below (va_Qi P (wdP E) (eA E s.heap.size)) args s 0 0 (eA E s.heap.size)) 15 [(0, .ref (eAd E 9)), (1, .long x1), (3, .long x3), (5, .long x5), (7, .long x7), (9, .int x9), (10, .int x10)] [] μ) (x1 : Int64) (x3 : Int64) (x5 : Int64) (x7 : Int64) (μ : MemT) (h : t_X9_area_0 K15 P x1 x3 x5 x7 μ) : V p l e (rmN 5 128) s m args below meth c E 12 0 0 (MQ below (va_Qi P (wdP E) (eA E s.heap.size)) args s 0 0 (eA E s.heap.size)) 0 [(0, .ref (eAd E 9)), (1, .long x1), (3, .long x3), (5, .long x5), (7, .long x7)] [] μ := by
  unfold t_X9_area_0 at h
  refine v_aload_n C 0 rfl rfl dX9_area_0 ?_
  refine v_iconst (v := (0 : Int32)) C dX9_area_1 (by decide) ?_
  refine pf_X9_109 C dX9_area_2 ?_
  refine v_nmM (fun μ1 e_μ1 => ?_)
  replace h := h μ1 e_μ1
  refine v_aload_n C 0 rfl rfl dX9_area_5 ?_
  obtain ⟨P2, hs, h⟩ := h
  refine v_callVv C 9 [] (by decide) rfl rfl rfl (so_X9_look μ1 P2 hs) gw_X9_222 rfl rfl dd_X9_look ⟨by decide, by decide⟩ rfl rfl (Nat.le_of_ble_eq_true rfl) ⟨by decide, by decide⟩ dX9_area_6 (fun μ3 q4 => ?_)
  replace h := h μ3 q4
  refine v_iconst (v := (0 : Int32)) C dX9_area_9 (by decide) ?_
  refine v_istore C [(9, .int (0 : Int32)), (0, .ref (eAd E 9)), (1, .long x1), (3, .long x3), (5, .long x5), (7, .long x7)] (by decide) rfl dX9_area_10 ?_
  refine v_iconst (v := (0 : Int32)) C dX9_area_12 (by decide) ?_
  refine v_istore C [(10, .int (0 : Int32)), (9, .int (0 : Int32)), (0, .ref (eAd E 9)), (1, .long x1), (3, .long x3), (5, .long x5), (7, .long x7)] (by decide) rfl dX9_area_13 ?_
  refine v_sub C [2, 3, 4, 5, 6, 1, 0] rfl ?_
  exact hK15 _ _ _ _ _ _ _ h
set_option maxRecDepth 10000 in
set_option maxHeartbeats 4000000 in
theorem so_X9_area {l : Launch} {E : EvT} (x1 : Int64) (x3 : Int64) (x5 : Int64) (x7 : Int64) (μ : MemT) (P : Int32 → MemT → Prop) (h : sp_X9_area x1 x3 x5 x7 μ P) : MCi l E yX9_area cX9_area 12 (some .int) (rmN 5 128) [.ref (eAd E 9), .long x1, .long x3, .long x5, .long x7] μ P := by
  refine mc_entryi (by decide +kernel) (Nat.le_of_ble_eq_true rfl) (fun p e s m below meth c C hr => ?_)
  have h0 := h (fun x1_ x3_ x5_ x7_ x9_ x10_ μ => V p l e (rmN 5 128) s m ([.ref (eAd E 9), .long x1, .long x3, .long x5, .long x7] : List Value).toArray below meth c E 12 0 0 (MQ below (va_Qi P (wdP E) (eA E s.heap.size)) ([.ref (eAd E 9), .long x1, .long x3, .long x5, .long x7] : List Value).toArray s 0 0 (eA E s.heap.size)) 15 [(0, .ref (eAd E 9)), (1, .long x1_), (3, .long x3_), (5, .long x5_), (7, .long x7_), (9, .int x9_), (10, .int x10_)] [] μ) (fun x1 x3 x5 x7 x9 x10 μ ht => so_X9_area_15 C hr (fun x1 x3 x5 x7 x9 x10 μ hk => hk) x1 x3 x5 x7 x9 x10 μ ht) 
  exact so_X9_area_0 C hr (fun x1 x3 x5 x7 x9 x10 μ hk => hk) x1 x3 x5 x7 μ h0
