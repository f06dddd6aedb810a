/-! Their soundness. -/
set_option maxRecDepth 10000 in
set_option maxHeartbeats 4000000 in
theorem ox_X8_requireSign_0 {p : Program} {l : Launch} {e : Env} {s : State} {m : MethodId} {args : Array Value} {below : List Frame} {meth : Method} {c : Code} {E : EvT} {P : MemT → Prop} {PX : String → MemT → Prop} (hl9 : l.stackTraces = false) (CC : CX p l s m args meth c E cX8_requireSign 2 RX8) (hr : meth.sig.returnType = none) (x1 : Int32) (μ : MemT) (h : tx_X8_requireSign_0 P PX x1 μ) : V p l e (rmX 6 90 1) s m args below meth c E 2 0 0 (QXv below E P PX args s 1) 0 [(0, .ref (eAd E 0)), (1, .int x1)] [] μ := by
  have C := CC.1
  unfold tx_X8_requireSign_0 at h
  refine v_iload_n C 1 rfl rfl dX8_requireSign_0 ?_
  refine v_if_lt C 15 (by decide) dX8_requireSign_1 (fun q2 => ?_) (fun q2 => ?_)
  · replace h := h.1 q2
    exact x_throwN (k := 1) CC xt_nsee (is := 213) (text := _) (by simp [lstr]; rfl) h dX8_requireSign_15 dX8_requireSign_18 dX8_requireSign_19 dX8_requireSign_21 dX8_requireSign_24 (by decide) (by decide) (by decide) (by decide) (by decide) (by decide)
  · replace h := h.2 q2
    refine v_iload_n C 1 rfl rfl dX8_requireSign_4 ?_
    refine v_aload_n C 0 rfl rfl dX8_requireSign_5 ?_
    refine gf_X8_12 C dX8_requireSign_6 ?_
    refine gf_X8_82 C dX8_requireSign_9 ?_
    refine v_icmp_lt C 25 (by decide) dX8_requireSign_12 (fun q1 => ?_) (fun q1 => ?_)
    · replace h := h.1 q1
      exact x_vret C hr h dX8_requireSign_25 (Nat.le_of_ble_eq_true rfl) (Nat.le_of_ble_eq_true rfl)
    · replace h := h.2 q1
      exact x_throwN (k := 1) CC xt_nsee (is := 213) (text := _) (by simp [lstr]; rfl) h dX8_requireSign_15 dX8_requireSign_18 dX8_requireSign_19 dX8_requireSign_21 dX8_requireSign_24 (by decide) (by decide) (by decide) (by decide) (by decide) (by decide)
set_option maxRecDepth 10000 in
set_option maxHeartbeats 4000000 in
theorem ox_X8_requireSign {l : Launch} {E : EvT} (hl9 : l.stackTraces = false) (x1 : Int32) (μ : MemT) (P : MemT → Prop) (PX : String → MemT → Prop) (h : sx_X8_requireSign x1 μ P PX) : MXv l E yX8_requireSign cX8_requireSign 2 none (rmX 6 90 1) [.ref (eAd E 0), .int x1] μ P PX 1 := by
  refine mx_entryv hl9 (by decide +kernel) (Nat.le_of_ble_eq_true rfl) (fun p e s m below meth c CC hr => ?_)
  exact ox_X8_requireSign_0 hl9 CC hr x1 μ h
set_option maxRecDepth 10000 in
set_option maxHeartbeats 4000000 in
theorem ox_X8_requireWithin_0 {p : Program} {l : Launch} {e : Env} {s : State} {m : MethodId} {args : Array Value} {below : List Frame} {meth : Method} {c : Code} {E : EvT} {P : MemT → Prop} {PX : String → MemT → Prop} (hl9 : l.stackTraces = false) (CC : CX p l s m args meth c E cX8_requireWithin 3 RX8) (hr : meth.sig.returnType = none) (x1 : Int32) (x2 : Int32) (μ : MemT) (h : tx_X8_requireWithin_0 P PX x1 x2 μ) : V p l e (rmX 6 90 1) s m args below meth c E 3 0 0 (QXv below E P PX args s 1) 0 [(0, .ref (eAd E 0)), (1, .int x1), (2, .int x2)] [] μ := by
  have C := CC.1
  unfold tx_X8_requireWithin_0 at h
  refine v_iload_n C 1 rfl rfl dX8_requireWithin_0 ?_
  refine v_if_lt C 9 (by decide) dX8_requireWithin_1 (fun q2 => ?_) (fun q2 => ?_)
  · replace h := h.1 q2
    exact x_throw (k := 1) CC xt_ioobe (is := 216) (text := _) (by simp [lstr]; rfl) h dX8_requireWithin_9 dX8_requireWithin_12 dX8_requireWithin_13 dX8_requireWithin_15 dX8_requireWithin_18 (by decide) (by decide) (by decide) (by decide) (by decide) (by decide)
  · replace h := h.2 q2
    refine v_iload_n C 1 rfl rfl dX8_requireWithin_4 ?_
    refine v_iload_n C 2 rfl rfl dX8_requireWithin_5 ?_
    refine v_icmp_lt C 19 (by decide) dX8_requireWithin_6 (fun q1 => ?_) (fun q1 => ?_)
    · replace h := h.1 q1
      exact x_vret C hr h dX8_requireWithin_19 (Nat.le_of_ble_eq_true rfl) (Nat.le_of_ble_eq_true rfl)
    · replace h := h.2 q1
      exact x_throw (k := 1) CC xt_ioobe (is := 216) (text := _) (by simp [lstr]; rfl) h dX8_requireWithin_9 dX8_requireWithin_12 dX8_requireWithin_13 dX8_requireWithin_15 dX8_requireWithin_18 (by decide) (by decide) (by decide) (by decide) (by decide) (by decide)
set_option maxRecDepth 10000 in
set_option maxHeartbeats 4000000 in
theorem ox_X8_requireWithin {l : Launch} {E : EvT} (hl9 : l.stackTraces = false) (x1 : Int32) (x2 : Int32) (μ : MemT) (P : MemT → Prop) (PX : String → MemT → Prop) (h : sx_X8_requireWithin x1 x2 μ P PX) : MXv l E yX8_requireWithin cX8_requireWithin 3 none (rmX 6 90 1) [.ref (eAd E 0), .int x1, .int x2] μ P PX 1 := by
  refine mx_entryv hl9 (by decide +kernel) (Nat.le_of_ble_eq_true rfl) (fun p e s m below meth c CC hr => ?_)
  exact ox_X8_requireWithin_0 hl9 CC hr x1 x2 μ h
set_option maxRecDepth 10000 in
set_option maxHeartbeats 4000000 in
theorem ox_X8_sign_61 {p : Program} {l : Launch} {e : Env} {s : State} {m : MethodId} {args : Array Value} {below : List Frame} {meth : Method} {c : Code} {E : EvT} {P : Int32 → MemT → Prop} {PX : String → MemT → Prop} (hl9 : l.stackTraces = false) (CC : CX p l s m args meth c E cX8_sign 10 RX8) (hr : meth.sig.returnType = (some .int)) (x1 : Int32) (x2 : Int64) (x4 : Int64) (x6 : Int64) (x8 : Int32) (y0 : Int32) (μ : MemT) (h : tx_X8_sign_61 P PX x1 x2 x4 x6 x8 y0 μ) : V p l e (rmX 6 90 1) s m args below meth c E 10 0 0 (QXi below E P PX args s 1) 61 [(0, .ref (eAd E 0)), (1, .int x1), (2, .long x2), (4, .long x4), (6, .long x6), (8, .int x8)] [.int y0] μ := by
  have C := CC.1
  unfold tx_X8_sign_61 at h
  refine v_istore C [(9, .int y0), (0, .ref (eAd E 0)), (1, .int x1), (2, .long x2), (4, .long x4), (6, .long x6), (8, .int x8)] (by decide) rfl dX8_sign_61 ?_
  refine v_iload C 0 rfl dX8_sign_63 ?_
  refine v_if_ne C 78 (by decide) dX8_sign_65 (fun q7 => ?_) (fun q7 => ?_)
  · replace h := h.1 q7
    refine v_aload_n C 1 rfl rfl dX8_sign_78 ?_
    refine gf_X8_12 C dX8_sign_79 ?_
    refine gf_X8_82 C dX8_sign_82 ?_
    refine v_sipush (v := (200 : Int32)) C dX8_sign_85 (by decide) ?_
    refine v_icmp_lt C 101 (by decide) dX8_sign_88 (fun q6 => ?_) (fun q6 => ?_)
    · replace h := h.1 q6
      refine v_aload_n C 1 rfl rfl dX8_sign_101 ?_
      refine v_iconst (v := (0 : Int32)) C dX8_sign_102 (by decide) ?_
      refine pf_X8_65 C (by decide) dX8_sign_103 ?_
      refine v_nmM (fun μ1 e_μ1 => ?_)
      replace h := h μ1 e_μ1
      refine v_aload_n C 1 rfl rfl dX8_sign_106 ?_
      refine gf_X8_12 C dX8_sign_107 ?_
      refine v_iload_n C 2 rfl rfl dX8_sign_110 ?_
      refine v_lload_n C 3 rfl rfl dX8_sign_111 ?_
      refine v_lload C 4 rfl dX8_sign_112 ?_
      refine v_lload C 5 rfl dX8_sign_114 ?_
      refine v_iload C 6 rfl dX8_sign_116 ?_
      obtain ⟨P2, hs, h⟩ := h
      refine v_callVi C 1 [.int x1, .long x2, .long x4, .long x6, .int x8] (by decide) rfl rfl rfl (so_X7_add x1 x2 x4 x6 x8 μ1 P2 hs) gw_X8_91 rfl rfl dd_X7_add ⟨by decide, by decide⟩ rfl rfl (Nat.le_of_ble_eq_true rfl) ⟨by decide, by decide⟩ dX8_sign_118 (fun r5 μ3 q4 => ?_)
      replace h := h r5 μ3 q4
      exact x_iret C hr h dX8_sign_121 (Nat.le_of_ble_eq_true rfl) (Nat.le_of_ble_eq_true rfl)
    · replace h := h.2 q6
      exact x_throw (k := 1) CC xt_uoe (is := 88) (text := _) (by simp [lstr]; rfl) h dX8_sign_91 dX8_sign_94 dX8_sign_95 dX8_sign_97 dX8_sign_100 (by decide) (by decide) (by decide) (by decide) (by decide) (by decide)
  · replace h := h.2 q7
    exact x_throw (k := 1) CC xt_iae (is := 77) (text := _) (by simp [lstr]; rfl) h dX8_sign_68 dX8_sign_71 dX8_sign_72 dX8_sign_74 dX8_sign_77 (by decide) (by decide) (by decide) (by decide) (by decide) (by decide)
set_option maxRecDepth 10000 in
set_option maxHeartbeats 4000000 in
theorem ox_X8_sign_60 {p : Program} {l : Launch} {e : Env} {s : State} {m : MethodId} {args : Array Value} {below : List Frame} {meth : Method} {c : Code} {E : EvT} {P : Int32 → MemT → Prop} {PX : String → MemT → Prop} (hl9 : l.stackTraces = false) (CC : CX p l s m args meth c E cX8_sign 10 RX8) (hr : meth.sig.returnType = (some .int)) (x1 : Int32) (x2 : Int64) (x4 : Int64) (x6 : Int64) (x8 : Int32) (μ : MemT) (h : tx_X8_sign_60 P PX x1 x2 x4 x6 x8 μ) : V p l e (rmX 6 90 1) s m args below meth c E 10 0 0 (QXi below E P PX args s 1) 60 [(0, .ref (eAd E 0)), (1, .int x1), (2, .long x2), (4, .long x4), (6, .long x6), (8, .int x8)] [] μ := by
  have C := CC.1
  unfold tx_X8_sign_60 at h
  refine v_iconst (v := (0 : Int32)) C dX8_sign_60 (by decide) ?_
  exact ox_X8_sign_61 hl9 CC hr _ _ _ _ _ _ _ h
set_option maxRecDepth 10000 in
set_option maxHeartbeats 4000000 in
theorem ox_X8_sign_0 {p : Program} {l : Launch} {e : Env} {s : State} {m : MethodId} {args : Array Value} {below : List Frame} {meth : Method} {c : Code} {E : EvT} {P : Int32 → MemT → Prop} {PX : String → MemT → Prop} (hl9 : l.stackTraces = false) (CC : CX p l s m args meth c E cX8_sign 10 RX8) (hr : meth.sig.returnType = (some .int)) (x1 : Int32) (x2 : Int64) (x4 : Int64) (x6 : Int64) (x8 : Int32) (μ : MemT) (h : tx_X8_sign_0 P PX x1 x2 x4 x6 x8 μ) : V p l e (rmX 6 90 1) s m args below meth c E 10 0 0 (QXi below E P PX args s 1) 0 [(0, .ref (eAd E 0)), (1, .int x1), (2, .long x2), (4, .long x4), (6, .long x6), (8, .int x8)] [] μ := by
  have C := CC.1
  unfold tx_X8_sign_0 at h
  refine v_iload_n C 1 rfl rfl dX8_sign_0 ?_
  refine v_if_lt C 60 (by decide) dX8_sign_1 (fun q16 => ?_) (fun q16 => ?_)
  · replace h := h.1 q16
    exact ox_X8_sign_60 hl9 CC hr _ _ _ _ _ _ h
  · replace h := h.2 q16
    refine v_iload_n C 1 rfl rfl dX8_sign_4 ?_
    refine v_sipush (v := (256 : Int32)) C dX8_sign_5 (by decide) ?_
    refine v_icmp_ge C 60 (by decide) dX8_sign_8 (fun q15 => ?_) (fun q15 => ?_)
    · replace h := h.1 q15
      exact ox_X8_sign_60 hl9 CC hr _ _ _ _ _ _ h
    · replace h := h.2 q15
      refine v_lload_n C 2 rfl rfl dX8_sign_11 ?_
      obtain ⟨P1, hs, h⟩ := h
      refine v_callSi C [.long x2] (so_X8_isCoordinate x2 μ P1 hs) gw_X8_69 rfl rfl dd_X8_isCoordinate ⟨by decide, by decide⟩ rfl rfl (Nat.le_of_ble_eq_true rfl) ⟨by decide, by decide⟩ dX8_sign_12 (fun r4 μ2 q3 => ?_)
      replace h := h r4 μ2 q3
      refine v_if_eq C 60 (by decide) dX8_sign_15 (fun q14 => ?_) (fun q14 => ?_)
      · replace h := h.1 q14
        exact ox_X8_sign_60 hl9 CC hr _ _ _ _ _ _ h
      · replace h := h.2 q14
        refine v_lload C 3 rfl dX8_sign_18 ?_
        obtain ⟨P5, hs, h⟩ := h
        refine v_callSi C [.long x4] (so_X8_isCoordinate x4 μ2 P5 hs) gw_X8_69 rfl rfl dd_X8_isCoordinate ⟨by decide, by decide⟩ rfl rfl (Nat.le_of_ble_eq_true rfl) ⟨by decide, by decide⟩ dX8_sign_20 (fun r8 μ6 q7 => ?_)
        replace h := h r8 μ6 q7
        refine v_if_eq C 60 (by decide) dX8_sign_23 (fun q13 => ?_) (fun q13 => ?_)
        · replace h := h.1 q13
          exact ox_X8_sign_60 hl9 CC hr _ _ _ _ _ _ h
        · replace h := h.2 q13
          refine v_lload C 4 rfl dX8_sign_26 ?_
          refine v_lconst (v := (0 : Int64)) C dX8_sign_28 (by decide) ?_
          refine v_lcmp_lt C 60 (by decide) dX8_sign_29 dX8_sign_30 (fun q12 => ?_) (fun q12 => ?_)
          · replace h := h.1 q12
            exact ox_X8_sign_60 hl9 CC hr _ _ _ _ _ _ h
          · replace h := h.2 q12
            refine v_lload C 4 rfl dX8_sign_33 ?_
            refine v_ldc2 C gc_X8_73 dX8_sign_35 ?_
            refine v_lcmp_gt C 60 (by decide) dX8_sign_38 dX8_sign_39 (fun q11 => ?_) (fun q11 => ?_)
            · replace h := h.1 q11
              exact ox_X8_sign_60 hl9 CC hr _ _ _ _ _ _ h
            · replace h := h.2 q11
              refine v_iload C 5 rfl dX8_sign_42 ?_
              refine v_iconst (v := (1 : Int32)) C dX8_sign_44 (by decide) ?_
              refine v_icmp_lt C 60 (by decide) dX8_sign_45 (fun q10 => ?_) (fun q10 => ?_)
              · replace h := h.1 q10
                exact ox_X8_sign_60 hl9 CC hr _ _ _ _ _ _ h
              · replace h := h.2 q10
                refine v_iload C 5 rfl dX8_sign_48 ?_
                refine v_sipush (v := (1000 : Int32)) C dX8_sign_50 (by decide) ?_
                refine v_icmp_gt C 60 (by decide) dX8_sign_53 (fun q9 => ?_) (fun q9 => ?_)
                · replace h := h.1 q9
                  exact ox_X8_sign_60 hl9 CC hr _ _ _ _ _ _ h
                · replace h := h.2 q9
                  refine v_iconst (v := (1 : Int32)) C dX8_sign_56 (by decide) ?_
                  refine v_goto C 61 (by decide) dX8_sign_57 ?_
                  exact ox_X8_sign_61 hl9 CC hr _ _ _ _ _ _ _ h
set_option maxRecDepth 10000 in
set_option maxHeartbeats 4000000 in
theorem ox_X8_sign {l : Launch} {E : EvT} (hl9 : l.stackTraces = false) (x1 : Int32) (x2 : Int64) (x4 : Int64) (x6 : Int64) (x8 : Int32) (μ : MemT) (P : Int32 → MemT → Prop) (PX : String → MemT → Prop) (h : sx_X8_sign x1 x2 x4 x6 x8 μ P PX) : MXi l E yX8_sign cX8_sign 10 (some .int) (rmX 6 90 1) [.ref (eAd E 0), .int x1, .long x2, .long x4, .long x6, .int x8] μ P PX 1 := by
  refine mx_entryi hl9 (by decide +kernel) (Nat.le_of_ble_eq_true rfl) (fun p e s m below meth c CC hr => ?_)
  exact ox_X8_sign_0 hl9 CC hr x1 x2 x4 x6 x8 μ h
set_option maxRecDepth 10000 in
set_option maxHeartbeats 4000000 in
theorem ox_X8_turn_0 {p : Program} {l : Launch} {e : Env} {s : State} {m : MethodId} {args : Array Value} {below : List Frame} {meth : Method} {c : Code} {E : EvT} {P : Int32 → MemT → Prop} {PX : String → MemT → Prop} (hl9 : l.stackTraces = false) (CC : CX p l s m args meth c E cX8_turn 4 RX8) (hr : meth.sig.returnType = (some .int)) (x1 : Int32) (x2 : Int32) (μ : MemT) (h : tx_X8_turn_0 P PX x1 x2 μ) : V p l e (rmX 7 111 1) s m args below meth c E 4 0 0 (QXi below E P PX args s 1) 0 [(0, .ref (eAd E 0)), (1, .int x1), (2, .int x2)] [] μ := by
  have C := CC.1
  unfold tx_X8_turn_0 at h
  refine v_aload_n C 0 rfl rfl dX8_turn_0 ?_
  refine v_iload_n C 1 rfl rfl dX8_turn_1 ?_
  obtain ⟨P1, hs, h⟩ := h
  refine x_callVv (kk9 := 1) CC 0 [.int x1] (by decide) rfl rfl rfl (ox_X8_requireSign hl9 x1 μ P1 _ hs) gw_X8_95 rfl rfl dd_X8_requireSign ⟨by decide, by decide⟩ rfl rfl (Nat.le_of_ble_eq_true rfl) ⟨by decide, by decide⟩ dX8_turn_2 ⟨by decide, by decide⟩ (fun _ _ h => h) (fun μ2 q3 => ?_)
  replace h := h μ2 q3
  refine v_aload_n C 0 rfl rfl dX8_turn_5 ?_
  refine gf_X8_12 C dX8_turn_6 ?_
  refine gf_X8_99 C dX8_turn_9 ?_
  refine v_iload_n C 1 rfl rfl dX8_turn_12 ?_
  obtain ⟨b4, h⟩ := h
  refine v_zald C 15 (by decide) rfl b4 dX8_turn_13 ?_
  refine v_istore_n C [(3, .int (μ2.1 15 x1.toNatClampNeg)), (0, .ref (eAd E 0)), (1, .int x1), (2, .int x2)] rfl (by decide) rfl dX8_turn_14 ?_
  refine v_aload_n C 1 rfl rfl dX8_turn_15 ?_
  refine gf_X8_12 C dX8_turn_16 ?_
  refine gf_X8_99 C dX8_turn_19 ?_
  refine v_iload_n C 2 rfl rfl dX8_turn_22 ?_
  refine v_iload_n C 3 rfl rfl dX8_turn_23 ?_
  obtain ⟨b5, h⟩ := h
  refine v_zast C 15 (by decide) rfl b5 dX8_turn_24 ?_
  refine v_nmM (fun μ6 e_μ6 => ?_)
  replace h := h μ6 e_μ6
  refine v_aload_n C 1 rfl rfl dX8_turn_25 ?_
  refine v_iconst (v := (0 : Int32)) C dX8_turn_26 (by decide) ?_
  refine pf_X8_65 C (by decide) dX8_turn_27 ?_
  refine v_nmM (fun μ7 e_μ7 => ?_)
  replace h := h μ7 e_μ7
  refine v_iload_n C 0 rfl rfl dX8_turn_30 ?_
  refine v_if_eq C 38 (by decide) dX8_turn_31 (fun q8 => ?_) (fun q8 => ?_)
  · replace h := h.1 q8
    refine v_iconst (v := (0 : Int32)) C dX8_turn_38 (by decide) ?_
    exact x_iret C hr h dX8_turn_39 (Nat.le_of_ble_eq_true rfl) (Nat.le_of_ble_eq_true rfl)
  · replace h := h.2 q8
    refine v_iconst (v := (1 : Int32)) C dX8_turn_34 (by decide) ?_
    refine v_goto C 39 (by decide) dX8_turn_35 ?_
    exact x_iret C hr h dX8_turn_39 (Nat.le_of_ble_eq_true rfl) (Nat.le_of_ble_eq_true rfl)
set_option maxRecDepth 10000 in
set_option maxHeartbeats 4000000 in
theorem ox_X8_turn {l : Launch} {E : EvT} (hl9 : l.stackTraces = false) (x1 : Int32) (x2 : Int32) (μ : MemT) (P : Int32 → MemT → Prop) (PX : String → MemT → Prop) (h : sx_X8_turn x1 x2 μ P PX) : MXi l E yX8_turn cX8_turn 4 (some .int) (rmX 7 111 1) [.ref (eAd E 0), .int x1, .int x2] μ P PX 1 := by
  refine mx_entryi hl9 (by decide +kernel) (Nat.le_of_ble_eq_true rfl) (fun p e s m below meth c CC hr => ?_)
  exact ox_X8_turn_0 hl9 CC hr x1 x2 μ h
set_option maxRecDepth 10000 in
set_option maxHeartbeats 4000000 in
theorem ox_X8_map_0 {p : Program} {l : Launch} {e : Env} {s : State} {m : MethodId} {args : Array Value} {below : List Frame} {meth : Method} {c : Code} {E : EvT} {P : Int32 → MemT → Prop} {PX : String → MemT → Prop} (hl9 : l.stackTraces = false) (CC : CX p l s m args meth c E cX8_map 6 RX8) (hr : meth.sig.returnType = (some .int)) (x1 : Int32) (x2 : Int32) (x3 : Int32) (x4 : Int32) (μ : MemT) (h : tx_X8_map_0 P PX x1 x2 x3 x4 μ) : V p l e (rmX 6 90 1) s m args below meth c E 6 0 0 (QXi below E P PX args s 1) 0 [(0, .ref (eAd E 0)), (1, .int x1), (2, .int x2), (3, .int x3), (4, .int x4)] [] μ := by
  have C := CC.1
  unfold tx_X8_map_0 at h
  refine v_iload_n C 1 rfl rfl dX8_map_0 ?_
  refine v_if_lt C 20 (by decide) dX8_map_1 (fun q17 => ?_) (fun q17 => ?_)
  · replace h := h.1 q17
    exact x_throw (k := 1) CC xt_ioobe (is := 105) (text := _) (by simp [lstr]; rfl) h dX8_map_20 dX8_map_23 dX8_map_24 dX8_map_26 dX8_map_29 (by decide) (by decide) (by decide) (by decide) (by decide) (by decide)
  · replace h := h.2 q17
    refine v_iload_n C 1 rfl rfl dX8_map_4 ?_
    refine v_iconst (v := (4 : Int32)) C dX8_map_5 (by decide) ?_
    refine v_icmp_ge C 20 (by decide) dX8_map_6 (fun q16 => ?_) (fun q16 => ?_)
    · replace h := h.1 q16
      exact x_throw (k := 1) CC xt_ioobe (is := 105) (text := _) (by simp [lstr]; rfl) h dX8_map_20 dX8_map_23 dX8_map_24 dX8_map_26 dX8_map_29 (by decide) (by decide) (by decide) (by decide) (by decide) (by decide)
    · replace h := h.2 q16
      refine v_iload_n C 2 rfl rfl dX8_map_9 ?_
      refine v_if_lt C 20 (by decide) dX8_map_10 (fun q15 => ?_) (fun q15 => ?_)
      · replace h := h.1 q15
        exact x_throw (k := 1) CC xt_ioobe (is := 105) (text := _) (by simp [lstr]; rfl) h dX8_map_20 dX8_map_23 dX8_map_24 dX8_map_26 dX8_map_29 (by decide) (by decide) (by decide) (by decide) (by decide) (by decide)
      · replace h := h.2 q15
        refine v_iload_n C 2 rfl rfl dX8_map_13 ?_
        refine v_sipush (v := (256 : Int32)) C dX8_map_14 (by decide) ?_
        refine v_icmp_lt C 30 (by decide) dX8_map_17 (fun q14 => ?_) (fun q14 => ?_)
        · replace h := h.1 q14
          refine v_iload_n C 3 rfl rfl dX8_map_30 ?_
          refine v_iload C 4 rfl dX8_map_31 ?_
          obtain ⟨P1, hs, h⟩ := h
          refine v_callSi C [.int x3, .int x4] (so_X8_areLetters x3 x4 μ P1 hs) gw_X8_108 rfl rfl dd_X8_areLetters ⟨by decide, by decide⟩ rfl rfl (Nat.le_of_ble_eq_true rfl) ⟨by decide, by decide⟩ dX8_map_33 (fun r4 μ2 q3 => ?_)
          replace h := h r4 μ2 q3
          refine v_if_ne C 49 (by decide) dX8_map_36 (fun q13 => ?_) (fun q13 => ?_)
          · replace h := h.1 q13
            refine v_aload_n C 0 rfl rfl dX8_map_49 ?_
            refine gf_X8_19 C dX8_map_50 ?_
            refine v_iload_n C 1 rfl rfl dX8_map_53 ?_
            refine v_iload_n C 2 rfl rfl dX8_map_54 ?_
            obtain ⟨P5, hs, h⟩ := h
            refine v_callVi C 2 [.int x1, .int x2] (by decide) rfl rfl rfl (so_X2_told x1 x2 μ2 P5 hs) gw_X8_114 rfl rfl dd_X2_told ⟨by decide, by decide⟩ rfl rfl (Nat.le_of_ble_eq_true rfl) ⟨by decide, by decide⟩ dX8_map_55 (fun r8 μ6 q7 => ?_)
            replace h := h r8 μ6 q7
            refine v_istore C [(5, .int r8), (0, .ref (eAd E 0)), (1, .int x1), (2, .int x2), (3, .int x3), (4, .int x4)] (by decide) rfl dX8_map_58 ?_
            refine v_aload_n C 1 rfl rfl dX8_map_60 ?_
            refine gf_X8_19 C dX8_map_61 ?_
            refine v_iload_n C 2 rfl rfl dX8_map_64 ?_
            refine v_iload_n C 3 rfl rfl dX8_map_65 ?_
            refine v_iload_n C 4 rfl rfl dX8_map_66 ?_
            refine v_iload C 5 rfl dX8_map_67 ?_
            obtain ⟨P9, hs, h⟩ := h
            refine v_callVv C 2 [.int x1, .int x2, .int x3, .int x4] (by decide) rfl rfl rfl (so_X2_tell x1 x2 x3 x4 μ6 P9 hs) gw_X8_118 rfl rfl dd_X2_tell ⟨by decide, by decide⟩ rfl rfl (Nat.le_of_ble_eq_true rfl) ⟨by decide, by decide⟩ dX8_map_69 (fun μ10 q11 => ?_)
            replace h := h μ10 q11
            refine v_aload_n C 1 rfl rfl dX8_map_72 ?_
            refine v_iconst (v := (0 : Int32)) C dX8_map_73 (by decide) ?_
            refine pf_X8_65 C (by decide) dX8_map_74 ?_
            refine v_nmM (fun μ12 e_μ12 => ?_)
            replace h := h μ12 e_μ12
            refine v_iload C 0 rfl dX8_map_77 ?_
            exact x_iret C hr h dX8_map_79 (Nat.le_of_ble_eq_true rfl) (Nat.le_of_ble_eq_true rfl)
          · replace h := h.2 q13
            exact x_throw (k := 1) CC xt_iae (is := 112) (text := _) (by simp [lstr]; rfl) h dX8_map_39 dX8_map_42 dX8_map_43 dX8_map_45 dX8_map_48 (by decide) (by decide) (by decide) (by decide) (by decide) (by decide)
        · replace h := h.2 q14
          exact x_throw (k := 1) CC xt_ioobe (is := 105) (text := _) (by simp [lstr]; rfl) h dX8_map_20 dX8_map_23 dX8_map_24 dX8_map_26 dX8_map_29 (by decide) (by decide) (by decide) (by decide) (by decide) (by decide)
set_option maxRecDepth 10000 in
set_option maxHeartbeats 4000000 in
theorem ox_X8_map {l : Launch} {E : EvT} (hl9 : l.stackTraces = false) (x1 : Int32) (x2 : Int32) (x3 : Int32) (x4 : Int32) (μ : MemT) (P : Int32 → MemT → Prop) (PX : String → MemT → Prop) (h : sx_X8_map x1 x2 x3 x4 μ P PX) : MXi l E yX8_map cX8_map 6 (some .int) (rmX 6 90 1) [.ref (eAd E 0), .int x1, .int x2, .int x3, .int x4] μ P PX 1 := by
  refine mx_entryi hl9 (by decide +kernel) (Nat.le_of_ble_eq_true rfl) (fun p e s m below meth c CC hr => ?_)
  exact ox_X8_map_0 hl9 CC hr x1 x2 x3 x4 μ h
set_option maxRecDepth 10000 in
set_option maxHeartbeats 4000000 in
theorem ox_X8_tag_0 {p : Program} {l : Launch} {e : Env} {s : State} {m : MethodId} {args : Array Value} {below : List Frame} {meth : Method} {c : Code} {E : EvT} {P : Int32 → MemT → Prop} {PX : String → MemT → Prop} (hl9 : l.stackTraces = false) (CC : CX p l s m args meth c E cX8_tag 4 RX8) (hr : meth.sig.returnType = (some .int)) (x1 : Int32) (x2 : Int32) (μ : MemT) (h : tx_X8_tag_0 P PX x1 x2 μ) : V p l e (rmX 7 111 2) s m args below meth c E 4 0 0 (QXi below E P PX args s 2) 0 [(0, .ref (eAd E 0)), (1, .int x1), (2, .int x2)] [] μ := by
  have C := CC.1
  unfold tx_X8_tag_0 at h
  refine v_aload_n C 0 rfl rfl dX8_tag_0 ?_
  refine v_iload_n C 1 rfl rfl dX8_tag_1 ?_
  obtain ⟨P1, hs, h⟩ := h
  refine x_callVv (kk9 := 2) CC 0 [.int x1] (by decide) rfl rfl rfl (ox_X8_requireSign hl9 x1 μ P1 _ hs) gw_X8_95 rfl rfl dd_X8_requireSign ⟨by decide, by decide⟩ rfl rfl (Nat.le_of_ble_eq_true rfl) ⟨by decide, by decide⟩ dX8_tag_2 ⟨by decide, by decide⟩ (fun _ _ h => h) (fun μ2 q3 => ?_)
  replace h := h μ2 q3
  refine v_iload_n C 2 rfl rfl dX8_tag_5 ?_
  refine v_iconst (v := (-1 : Int32)) C dX8_tag_6 (by decide) ?_
  refine v_icmp_lt C 16 (by decide) dX8_tag_7 (fun q9 => ?_) (fun q9 => ?_)
  · replace h := h.1 q9
    exact x_throw (k := 2) CC xt_iae (is := 122) (text := _) (by simp [lstr]; rfl) h dX8_tag_16 dX8_tag_19 dX8_tag_20 dX8_tag_22 dX8_tag_25 (by decide) (by decide) (by decide) (by decide) (by decide) (by decide)
  · replace h := h.2 q9
    refine v_iload_n C 2 rfl rfl dX8_tag_10 ?_
    refine v_bipush (v := (100 : Int32)) C dX8_tag_11 (by decide) ?_
    refine v_icmp_le C 26 (by decide) dX8_tag_13 (fun q8 => ?_) (fun q8 => ?_)
    · replace h := h.1 q8
      refine v_aload_n C 0 rfl rfl dX8_tag_26 ?_
      refine gf_X8_12 C dX8_tag_27 ?_
      refine gf_X8_124 C dX8_tag_30 ?_
      refine v_iload_n C 1 rfl rfl dX8_tag_33 ?_
      obtain ⟨b4, h⟩ := h
      refine v_iald C 16 (by decide) rfl b4 dX8_tag_34 ?_
      refine v_istore_n C [(3, .int (μ2.1 16 x1.toNatClampNeg)), (0, .ref (eAd E 0)), (1, .int x1), (2, .int x2)] rfl (by decide) rfl dX8_tag_35 ?_
      refine v_aload_n C 1 rfl rfl dX8_tag_36 ?_
      refine gf_X8_12 C dX8_tag_37 ?_
      refine gf_X8_124 C dX8_tag_40 ?_
      refine v_iload_n C 2 rfl rfl dX8_tag_43 ?_
      refine v_iload_n C 3 rfl rfl dX8_tag_44 ?_
      obtain ⟨b5, h⟩ := h
      refine v_iast C 16 (by decide) rfl b5 dX8_tag_45 ?_
      refine v_nmM (fun μ6 e_μ6 => ?_)
      replace h := h μ6 e_μ6
      refine v_aload_n C 1 rfl rfl dX8_tag_46 ?_
      refine v_iconst (v := (0 : Int32)) C dX8_tag_47 (by decide) ?_
      refine pf_X8_65 C (by decide) dX8_tag_48 ?_
      refine v_nmM (fun μ7 e_μ7 => ?_)
      replace h := h μ7 e_μ7
      refine v_iload_n C 0 rfl rfl dX8_tag_51 ?_
      exact x_iret C hr h dX8_tag_52 (Nat.le_of_ble_eq_true rfl) (Nat.le_of_ble_eq_true rfl)
    · replace h := h.2 q8
      exact x_throw (k := 2) CC xt_iae (is := 122) (text := _) (by simp [lstr]; rfl) h dX8_tag_16 dX8_tag_19 dX8_tag_20 dX8_tag_22 dX8_tag_25 (by decide) (by decide) (by decide) (by decide) (by decide) (by decide)
set_option maxRecDepth 10000 in
set_option maxHeartbeats 4000000 in
theorem ox_X8_tag {l : Launch} {E : EvT} (hl9 : l.stackTraces = false) (x1 : Int32) (x2 : Int32) (μ : MemT) (P : Int32 → MemT → Prop) (PX : String → MemT → Prop) (h : sx_X8_tag x1 x2 μ P PX) : MXi l E yX8_tag cX8_tag 4 (some .int) (rmX 7 111 2) [.ref (eAd E 0), .int x1, .int x2] μ P PX 2 := by
  refine mx_entryi hl9 (by decide +kernel) (Nat.le_of_ble_eq_true rfl) (fun p e s m below meth c CC hr => ?_)
  exact ox_X8_tag_0 hl9 CC hr x1 x2 μ h
set_option maxRecDepth 10000 in
set_option maxHeartbeats 4000000 in
theorem ox_X8_letter_0 {p : Program} {l : Launch} {e : Env} {s : State} {m : MethodId} {args : Array Value} {below : List Frame} {meth : Method} {c : Code} {E : EvT} {P : Int32 → MemT → Prop} {PX : String → MemT → Prop} (hl9 : l.stackTraces = false) (CC : CX p l s m args meth c E cX8_letter 2 RX8) (hr : meth.sig.returnType = (some .int)) (x1 : Int32) (μ : MemT) (h : tx_X8_letter_0 P PX x1 μ) : V p l e (rmX 7 149 1) s m args below meth c E 2 0 0 (QXi below E P PX args s 1) 0 [(0, .ref (eAd E 0)), (1, .int x1)] [] μ := by
  have C := CC.1
  unfold tx_X8_letter_0 at h
  refine v_aload_n C 0 rfl rfl dX8_letter_0 ?_
  obtain ⟨P1, hs, h⟩ := h
  refine v_callVv C 0 [] (by decide) rfl rfl rfl (so_X8_refresh μ P1 hs) gw_X8_128 rfl rfl dd_X8_refresh ⟨by decide, by decide⟩ rfl rfl (Nat.le_of_ble_eq_true rfl) ⟨by decide, by decide⟩ dX8_letter_1 (fun μ2 q3 => ?_)
  replace h := h μ2 q3
  refine v_aload_n C 0 rfl rfl dX8_letter_4 ?_
  refine v_iload_n C 1 rfl rfl dX8_letter_5 ?_
  refine v_aload_n C 0 rfl rfl dX8_letter_6 ?_
  refine gf_X8_54 C dX8_letter_7 ?_
  refine gf_X8_131 C dX8_letter_10 ?_
  obtain ⟨P4, hs, h⟩ := h
  refine x_callVv (kk9 := 1) CC 0 [.int x1, .int (μ2.2.2.1 6)] (by decide) rfl rfl rfl (ox_X8_requireWithin hl9 x1 (μ2.2.2.1 6) μ2 P4 _ hs) gw_X8_132 rfl rfl dd_X8_requireWithin ⟨by decide, by decide⟩ rfl rfl (Nat.le_of_ble_eq_true rfl) ⟨by decide, by decide⟩ dX8_letter_13 ⟨by decide, by decide⟩ (fun _ _ h => h) (fun μ5 q6 => ?_)
  replace h := h μ5 q6
  refine v_aload_n C 0 rfl rfl dX8_letter_16 ?_
  refine gf_X8_54 C dX8_letter_17 ?_
  refine gf_X8_136 C dX8_letter_20 ?_
  refine v_iload_n C 1 rfl rfl dX8_letter_23 ?_
  obtain ⟨b7, h⟩ := h
  refine v_iald C 39 (by decide) rfl b7 dX8_letter_24 ?_
  exact x_iret C hr h dX8_letter_25 (Nat.le_of_ble_eq_true rfl) (Nat.le_of_ble_eq_true rfl)
set_option maxRecDepth 10000 in
set_option maxHeartbeats 4000000 in
theorem ox_X8_letter {l : Launch} {E : EvT} (hl9 : l.stackTraces = false) (x1 : Int32) (μ : MemT) (P : Int32 → MemT → Prop) (PX : String → MemT → Prop) (h : sx_X8_letter x1 μ P PX) : MXi l E yX8_letter cX8_letter 2 (some .int) (rmX 7 149 1) [.ref (eAd E 0), .int x1] μ P PX 1 := by
  refine mx_entryi hl9 (by decide +kernel) (Nat.le_of_ble_eq_true rfl) (fun p e s m below meth c CC hr => ?_)
  exact ox_X8_letter_0 hl9 CC hr x1 μ h
set_option maxRecDepth 10000 in
set_option maxHeartbeats 4000000 in
theorem ox_X8_from_0 {p : Program} {l : Launch} {e : Env} {s : State} {m : MethodId} {args : Array Value} {below : List Frame} {meth : Method} {c : Code} {E : EvT} {P : Int32 → MemT → Prop} {PX : String → MemT → Prop} (hl9 : l.stackTraces = false) (CC : CX p l s m args meth c E cX8_from 2 RX8) (hr : meth.sig.returnType = (some .int)) (x1 : Int32) (μ : MemT) (h : tx_X8_from_0 P PX x1 μ) : V p l e (rmX 7 149 1) s m args below meth c E 2 0 0 (QXi below E P PX args s 1) 0 [(0, .ref (eAd E 0)), (1, .int x1)] [] μ := by
  have C := CC.1
  unfold tx_X8_from_0 at h
  refine v_aload_n C 0 rfl rfl dX8_from_0 ?_
  obtain ⟨P1, hs, h⟩ := h
  refine v_callVv C 0 [] (by decide) rfl rfl rfl (so_X8_refresh μ P1 hs) gw_X8_128 rfl rfl dd_X8_refresh ⟨by decide, by decide⟩ rfl rfl (Nat.le_of_ble_eq_true rfl) ⟨by decide, by decide⟩ dX8_from_1 (fun μ2 q3 => ?_)
  replace h := h μ2 q3
  refine v_aload_n C 0 rfl rfl dX8_from_4 ?_
  refine v_iload_n C 1 rfl rfl dX8_from_5 ?_
  refine v_aload_n C 0 rfl rfl dX8_from_6 ?_
  refine gf_X8_54 C dX8_from_7 ?_
  refine gf_X8_131 C dX8_from_10 ?_
  obtain ⟨P4, hs, h⟩ := h
  refine x_callVv (kk9 := 1) CC 0 [.int x1, .int (μ2.2.2.1 6)] (by decide) rfl rfl rfl (ox_X8_requireWithin hl9 x1 (μ2.2.2.1 6) μ2 P4 _ hs) gw_X8_132 rfl rfl dd_X8_requireWithin ⟨by decide, by decide⟩ rfl rfl (Nat.le_of_ble_eq_true rfl) ⟨by decide, by decide⟩ dX8_from_13 ⟨by decide, by decide⟩ (fun _ _ h => h) (fun μ5 q6 => ?_)
  replace h := h μ5 q6
  refine v_aload_n C 0 rfl rfl dX8_from_16 ?_
  refine gf_X8_54 C dX8_from_17 ?_
  refine gf_X8_139 C dX8_from_20 ?_
  refine v_iload_n C 1 rfl rfl dX8_from_23 ?_
  obtain ⟨b7, h⟩ := h
  refine v_iald C 40 (by decide) rfl b7 dX8_from_24 ?_
  exact x_iret C hr h dX8_from_25 (Nat.le_of_ble_eq_true rfl) (Nat.le_of_ble_eq_true rfl)
set_option maxRecDepth 10000 in
set_option maxHeartbeats 4000000 in
theorem ox_X8_from {l : Launch} {E : EvT} (hl9 : l.stackTraces = false) (x1 : Int32) (μ : MemT) (P : Int32 → MemT → Prop) (PX : String → MemT → Prop) (h : sx_X8_from x1 μ P PX) : MXi l E yX8_from cX8_from 2 (some .int) (rmX 7 149 1) [.ref (eAd E 0), .int x1] μ P PX 1 := by
  refine mx_entryi hl9 (by decide +kernel) (Nat.le_of_ble_eq_true rfl) (fun p e s m below meth c CC hr => ?_)
  exact ox_X8_from_0 hl9 CC hr x1 μ h
set_option maxRecDepth 10000 in
set_option maxHeartbeats 4000000 in
theorem ox_X8_line_0 {p : Program} {l : Launch} {e : Env} {s : State} {m : MethodId} {args : Array Value} {below : List Frame} {meth : Method} {c : Code} {E : EvT} {P : Int32 → MemT → Prop} {PX : String → MemT → Prop} (hl9 : l.stackTraces = false) (CC : CX p l s m args meth c E cX8_line 2 RX8) (hr : meth.sig.returnType = (some .int)) (x1 : Int32) (μ : MemT) (h : tx_X8_line_0 P PX x1 μ) : V p l e (rmX 7 149 1) s m args below meth c E 2 0 0 (QXi below E P PX args s 1) 0 [(0, .ref (eAd E 0)), (1, .int x1)] [] μ := by
  have C := CC.1
  unfold tx_X8_line_0 at h
  refine v_aload_n C 0 rfl rfl dX8_line_0 ?_
  refine v_iload_n C 1 rfl rfl dX8_line_1 ?_
  obtain ⟨P1, hs, h⟩ := h
  refine x_callVv (kk9 := 1) CC 0 [.int x1] (by decide) rfl rfl rfl (ox_X8_requireSign hl9 x1 μ P1 _ hs) gw_X8_95 rfl rfl dd_X8_requireSign ⟨by decide, by decide⟩ rfl rfl (Nat.le_of_ble_eq_true rfl) ⟨by decide, by decide⟩ dX8_line_2 ⟨by decide, by decide⟩ (fun _ _ h => h) (fun μ2 q3 => ?_)
  replace h := h μ2 q3
  refine v_aload_n C 0 rfl rfl dX8_line_5 ?_
  obtain ⟨P4, hs, h⟩ := h
  refine v_callVv C 0 [] (by decide) rfl rfl rfl (so_X8_refresh μ2 P4 hs) gw_X8_128 rfl rfl dd_X8_refresh ⟨by decide, by decide⟩ rfl rfl (Nat.le_of_ble_eq_true rfl) ⟨by decide, by decide⟩ dX8_line_6 (fun μ5 q6 => ?_)
  replace h := h μ5 q6
  refine v_aload_n C 0 rfl rfl dX8_line_9 ?_
  refine gf_X8_33 C dX8_line_10 ?_
  refine gf_X8_142 C dX8_line_13 ?_
  refine v_iload_n C 1 rfl rfl dX8_line_16 ?_
  obtain ⟨b7, h⟩ := h
  refine v_iald C 26 (by decide) rfl b7 dX8_line_17 ?_
  exact x_iret C hr h dX8_line_18 (Nat.le_of_ble_eq_true rfl) (Nat.le_of_ble_eq_true rfl)
set_option maxRecDepth 10000 in
set_option maxHeartbeats 4000000 in
theorem ox_X8_line {l : Launch} {E : EvT} (hl9 : l.stackTraces = false) (x1 : Int32) (μ : MemT) (P : Int32 → MemT → Prop) (PX : String → MemT → Prop) (h : sx_X8_line x1 μ P PX) : MXi l E yX8_line cX8_line 2 (some .int) (rmX 7 149 1) [.ref (eAd E 0), .int x1] μ P PX 1 := by
  refine mx_entryi hl9 (by decide +kernel) (Nat.le_of_ble_eq_true rfl) (fun p e s m below meth c CC hr => ?_)
  exact ox_X8_line_0 hl9 CC hr x1 μ h
set_option maxRecDepth 10000 in
set_option maxHeartbeats 4000000 in
theorem ox_X8_block_0 {p : Program} {l : Launch} {e : Env} {s : State} {m : MethodId} {args : Array Value} {below : List Frame} {meth : Method} {c : Code} {E : EvT} {P : Int32 → MemT → Prop} {PX : String → MemT → Prop} (hl9 : l.stackTraces = false) (CC : CX p l s m args meth c E cX8_block 2 RX8) (hr : meth.sig.returnType = (some .int)) (x1 : Int32) (μ : MemT) (h : tx_X8_block_0 P PX x1 μ) : V p l e (rmX 7 149 1) s m args below meth c E 2 0 0 (QXi below E P PX args s 1) 0 [(0, .ref (eAd E 0)), (1, .int x1)] [] μ := by
  have C := CC.1
  unfold tx_X8_block_0 at h
  refine v_aload_n C 0 rfl rfl dX8_block_0 ?_
  refine v_iload_n C 1 rfl rfl dX8_block_1 ?_
  obtain ⟨P1, hs, h⟩ := h
  refine x_callVv (kk9 := 1) CC 0 [.int x1] (by decide) rfl rfl rfl (ox_X8_requireSign hl9 x1 μ P1 _ hs) gw_X8_95 rfl rfl dd_X8_requireSign ⟨by decide, by decide⟩ rfl rfl (Nat.le_of_ble_eq_true rfl) ⟨by decide, by decide⟩ dX8_block_2 ⟨by decide, by decide⟩ (fun _ _ h => h) (fun μ2 q3 => ?_)
  replace h := h μ2 q3
  refine v_aload_n C 0 rfl rfl dX8_block_5 ?_
  obtain ⟨P4, hs, h⟩ := h
  refine v_callVv C 0 [] (by decide) rfl rfl rfl (so_X8_refresh μ2 P4 hs) gw_X8_128 rfl rfl dd_X8_refresh ⟨by decide, by decide⟩ rfl rfl (Nat.le_of_ble_eq_true rfl) ⟨by decide, by decide⟩ dX8_block_6 (fun μ5 q6 => ?_)
  replace h := h μ5 q6
  refine v_aload_n C 0 rfl rfl dX8_block_9 ?_
  refine gf_X8_47 C dX8_block_10 ?_
  refine v_aload_n C 0 rfl rfl dX8_block_13 ?_
  refine gf_X8_40 C dX8_block_14 ?_
  refine v_iload_n C 1 rfl rfl dX8_block_17 ?_
  obtain ⟨P7, hs, h⟩ := h
  refine v_callVi C 6 [.ref (eAd E 5), .int x1] (by decide) rfl rfl rfl (so_X0_blockOfSign x1 μ5 P7 hs) gw_X8_145 rfl rfl dd_X0_blockOfSign ⟨by decide, by decide⟩ rfl rfl (Nat.le_of_ble_eq_true rfl) ⟨by decide, by decide⟩ dX8_block_18 (fun r10 μ8 q9 => ?_)
  replace h := h r10 μ8 q9
  exact x_iret C hr h dX8_block_21 (Nat.le_of_ble_eq_true rfl) (Nat.le_of_ble_eq_true rfl)
set_option maxRecDepth 10000 in
set_option maxHeartbeats 4000000 in
theorem ox_X8_block {l : Launch} {E : EvT} (hl9 : l.stackTraces = false) (x1 : Int32) (μ : MemT) (P : Int32 → MemT → Prop) (PX : String → MemT → Prop) (h : sx_X8_block x1 μ P PX) : MXi l E yX8_block cX8_block 2 (some .int) (rmX 7 149 1) [.ref (eAd E 0), .int x1] μ P PX 1 := by
  refine mx_entryi hl9 (by decide +kernel) (Nat.le_of_ble_eq_true rfl) (fun p e s m below meth c CC hr => ?_)
  exact ox_X8_block_0 hl9 CC hr x1 μ h
set_option maxRecDepth 10000 in
set_option maxHeartbeats 4000000 in
theorem ox_X8_twice_0 {p : Program} {l : Launch} {e : Env} {s : State} {m : MethodId} {args : Array Value} {below : List Frame} {meth : Method} {c : Code} {E : EvT} {P : Int32 → MemT → Prop} {PX : String → MemT → Prop} (hl9 : l.stackTraces = false) (CC : CX p l s m args meth c E cX8_twice 2 RX8) (hr : meth.sig.returnType = (some .int)) (x1 : Int32) (μ : MemT) (h : tx_X8_twice_0 P PX x1 μ) : V p l e (rmX 7 149 1) s m args below meth c E 2 0 0 (QXi below E P PX args s 1) 0 [(0, .ref (eAd E 0)), (1, .int x1)] [] μ := by
  have C := CC.1
  unfold tx_X8_twice_0 at h
  refine v_aload_n C 0 rfl rfl dX8_twice_0 ?_
  refine v_iload_n C 1 rfl rfl dX8_twice_1 ?_
  obtain ⟨P1, hs, h⟩ := h
  refine x_callVv (kk9 := 1) CC 0 [.int x1] (by decide) rfl rfl rfl (ox_X8_requireSign hl9 x1 μ P1 _ hs) gw_X8_95 rfl rfl dd_X8_requireSign ⟨by decide, by decide⟩ rfl rfl (Nat.le_of_ble_eq_true rfl) ⟨by decide, by decide⟩ dX8_twice_2 ⟨by decide, by decide⟩ (fun _ _ h => h) (fun μ2 q3 => ?_)
  replace h := h μ2 q3
  refine v_aload_n C 0 rfl rfl dX8_twice_5 ?_
  obtain ⟨P4, hs, h⟩ := h
  refine v_callVv C 0 [] (by decide) rfl rfl rfl (so_X8_refresh μ2 P4 hs) gw_X8_128 rfl rfl dd_X8_refresh ⟨by decide, by decide⟩ rfl rfl (Nat.le_of_ble_eq_true rfl) ⟨by decide, by decide⟩ dX8_twice_6 (fun μ5 q6 => ?_)
  replace h := h μ5 q6
  refine v_aload_n C 0 rfl rfl dX8_twice_9 ?_
  refine gf_X8_26 C dX8_twice_10 ?_
  refine gf_X8_149 C dX8_twice_13 ?_
  refine v_iload_n C 1 rfl rfl dX8_twice_16 ?_
  obtain ⟨b7, h⟩ := h
  refine v_iald C 23 (by decide) rfl b7 dX8_twice_17 ?_
  exact x_iret C hr h dX8_twice_18 (Nat.le_of_ble_eq_true rfl) (Nat.le_of_ble_eq_true rfl)
set_option maxRecDepth 10000 in
set_option maxHeartbeats 4000000 in
theorem ox_X8_twice {l : Launch} {E : EvT} (hl9 : l.stackTraces = false) (x1 : Int32) (μ : MemT) (P : Int32 → MemT → Prop) (PX : String → MemT → Prop) (h : sx_X8_twice x1 μ P PX) : MXi l E yX8_twice cX8_twice 2 (some .int) (rmX 7 149 1) [.ref (eAd E 0), .int x1] μ P PX 1 := by
  refine mx_entryi hl9 (by decide +kernel) (Nat.le_of_ble_eq_true rfl) (fun p e s m below meth c CC hr => ?_)
  exact ox_X8_twice_0 hl9 CC hr x1 μ h
set_option maxRecDepth 10000 in
set_option maxHeartbeats 4000000 in
theorem ox_X8_space_0 {p : Program} {l : Launch} {e : Env} {s : State} {m : MethodId} {args : Array Value} {below : List Frame} {meth : Method} {c : Code} {E : EvT} {P : Int32 → MemT → Prop} {PX : String → MemT → Prop} (hl9 : l.stackTraces = false) (CC : CX p l s m args meth c E cX8_space 2 RX8) (hr : meth.sig.returnType = (some .boolean)) (x1 : Int32) (μ : MemT) (h : tx_X8_space_0 P PX x1 μ) : V p l e (rmX 7 149 1) s m args below meth c E 2 0 0 (QXi below E P PX args s 1) 0 [(0, .ref (eAd E 0)), (1, .int x1)] [] μ := by
  have C := CC.1
  unfold tx_X8_space_0 at h
  refine v_aload_n C 0 rfl rfl dX8_space_0 ?_
  refine v_iload_n C 1 rfl rfl dX8_space_1 ?_
  obtain ⟨P1, hs, h⟩ := h
  refine x_callVv (kk9 := 1) CC 0 [.int x1] (by decide) rfl rfl rfl (ox_X8_requireSign hl9 x1 μ P1 _ hs) gw_X8_95 rfl rfl dd_X8_requireSign ⟨by decide, by decide⟩ rfl rfl (Nat.le_of_ble_eq_true rfl) ⟨by decide, by decide⟩ dX8_space_2 ⟨by decide, by decide⟩ (fun _ _ h => h) (fun μ2 q3 => ?_)
  replace h := h μ2 q3
  refine v_aload_n C 0 rfl rfl dX8_space_5 ?_
  obtain ⟨P4, hs, h⟩ := h
  refine v_callVv C 0 [] (by decide) rfl rfl rfl (so_X8_refresh μ2 P4 hs) gw_X8_128 rfl rfl dd_X8_refresh ⟨by decide, by decide⟩ rfl rfl (Nat.le_of_ble_eq_true rfl) ⟨by decide, by decide⟩ dX8_space_6 (fun μ5 q6 => ?_)
  replace h := h μ5 q6
  refine v_aload_n C 0 rfl rfl dX8_space_9 ?_
  refine gf_X8_40 C dX8_space_10 ?_
  refine gf_X8_152 C dX8_space_13 ?_
  refine v_iload_n C 1 rfl rfl dX8_space_16 ?_
  obtain ⟨b7, h⟩ := h
  refine v_zald C 28 (by decide) rfl b7 dX8_space_17 ?_
  obtain ⟨b8, h⟩ := h
  exact x_zret C hr (nb01 b8) h dX8_space_18 (Nat.le_of_ble_eq_true rfl) (Nat.le_of_ble_eq_true rfl)
set_option maxRecDepth 10000 in
set_option maxHeartbeats 4000000 in
theorem ox_X8_space {l : Launch} {E : EvT} (hl9 : l.stackTraces = false) (x1 : Int32) (μ : MemT) (P : Int32 → MemT → Prop) (PX : String → MemT → Prop) (h : sx_X8_space x1 μ P PX) : MXi l E yX8_space cX8_space 2 (some .boolean) (rmX 7 149 1) [.ref (eAd E 0), .int x1] μ P PX 1 := by
  refine mx_entryi hl9 (by decide +kernel) (Nat.le_of_ble_eq_true rfl) (fun p e s m below meth c CC hr => ?_)
  exact ox_X8_space_0 hl9 CC hr x1 μ h
set_option maxRecDepth 10000 in
set_option maxHeartbeats 4000000 in
theorem ox_X8_share_0 {p : Program} {l : Launch} {e : Env} {s : State} {m : MethodId} {args : Array Value} {below : List Frame} {meth : Method} {c : Code} {E : EvT} {P : Int64 → MemT → Prop} {PX : String → MemT → Prop} (hl9 : l.stackTraces = false) (CC : CX p l s m args meth c E cX8_share 5 RX8) (hr : meth.sig.returnType = (some .long)) (x1 : Int64) (x3 : Int64) (μ : MemT) (h : tx_X8_share_0 P PX x1 x3 μ) : V p l e (rmX 6 90 1) s m args below meth c E 5 0 0 (QXl below E P PX args s 1) 0 [(0, .ref (eAd E 0)), (1, .long x1), (3, .long x3)] [] μ := by
  have C := CC.1
  unfold tx_X8_share_0 at h
  refine v_lload_n C 2 rfl rfl dX8_share_0 ?_
  refine v_lconst (v := (0 : Int64)) C dX8_share_1 (by decide) ?_
  refine v_lcmp_ne C 16 (by decide) dX8_share_2 dX8_share_3 (fun q5 => ?_) (fun q5 => ?_)
  · replace h := h.1 q5
    refine v_lload_n C 1 rfl rfl dX8_share_16 ?_
    refine v_lload_n C 2 rfl rfl dX8_share_17 ?_
    obtain ⟨P1, hs, h⟩ := h
    refine v_callSl C [.long x1, .long x3] (so_X8_shareOf x1 x3 μ P1 hs) gw_X8_160 rfl rfl dd_X8_shareOf ⟨by decide, by decide⟩ rfl rfl (Nat.le_of_ble_eq_true rfl) ⟨by decide, by decide⟩ dX8_share_18 (fun r4 μ2 q3 => ?_)
    replace h := h r4 μ2 q3
    exact x_lret C hr h dX8_share_21 (Nat.le_of_ble_eq_true rfl) (Nat.le_of_ble_eq_true rfl)
  · replace h := h.2 q5
    exact x_throw (k := 1) CC xt_ae (is := 157) (text := _) (by simp [lstr]; rfl) h dX8_share_6 dX8_share_9 dX8_share_10 dX8_share_12 dX8_share_15 (by decide) (by decide) (by decide) (by decide) (by decide) (by decide)
set_option maxRecDepth 10000 in
set_option maxHeartbeats 4000000 in
theorem ox_X8_share {l : Launch} {E : EvT} (hl9 : l.stackTraces = false) (x1 : Int64) (x3 : Int64) (μ : MemT) (P : Int64 → MemT → Prop) (PX : String → MemT → Prop) (h : sx_X8_share x1 x3 μ P PX) : MXl l E yX8_share cX8_share 5 (some .long) (rmX 6 90 1) [.ref (eAd E 0), .long x1, .long x3] μ P PX 1 := by
  refine mx_entryl hl9 (by decide +kernel) (Nat.le_of_ble_eq_true rfl) (fun p e s m below meth c CC hr => ?_)
  exact ox_X8_share_0 hl9 CC hr x1 x3 μ h
set_option maxRecDepth 10000 in
set_option maxHeartbeats 4000000 in
theorem ox_X8_word_0 {p : Program} {l : Launch} {e : Env} {s : State} {m : MethodId} {args : Array Value} {below : List Frame} {meth : Method} {c : Code} {E : EvT} {P : Int32 → MemT → Prop} {PX : String → MemT → Prop} (hl9 : l.stackTraces = false) (CC : CX p l s m args meth c E cX8_word 4 RX8) (hr : meth.sig.returnType = (some .int)) (x1 : Int32) (x2 : Int32) (μ : MemT) (h : tx_X8_word_0 P PX x1 x2 μ) : V p l e (rmX 6 149 1) s m args below meth c E 4 0 0 (QXi below E P PX args s 1) 0 [(0, .ref (eAd E 0)), (1, .int x1), (2, .int x2)] [] μ := by
  have C := CC.1
  unfold tx_X8_word_0 at h
  refine v_aload_n C 0 rfl rfl dX8_word_0 ?_
  obtain ⟨P1, hs, h⟩ := h
  refine v_callVv C 0 [] (by decide) rfl rfl rfl (so_X8_refresh μ P1 hs) gw_X8_128 rfl rfl dd_X8_refresh ⟨by decide, by decide⟩ rfl rfl (Nat.le_of_ble_eq_true rfl) ⟨by decide, by decide⟩ dX8_word_1 (fun μ2 q3 => ?_)
  replace h := h μ2 q3
  refine v_iload_n C 1 rfl rfl dX8_word_4 ?_
  refine v_iconst (v := (-1 : Int32)) C dX8_word_5 (by decide) ?_
  refine v_icmp_ne C 17 (by decide) dX8_word_6 (fun q21 => ?_) (fun q21 => ?_)
  · replace h := h.1 q21
    refine v_iload_n C 1 rfl rfl dX8_word_17 ?_
    refine v_if_lt C 30 (by decide) dX8_word_18 (fun q16 => ?_) (fun q16 => ?_)
    · replace h := h.1 q16
      exact x_throw (k := 1) CC xt_ioobe (is := 168) (text := _) (by simp [lstr]; rfl) h dX8_word_30 dX8_word_33 dX8_word_34 dX8_word_36 dX8_word_39 (by decide) (by decide) (by decide) (by decide) (by decide) (by decide)
    · replace h := h.2 q16
      refine v_iload_n C 2 rfl rfl dX8_word_21 ?_
      refine v_if_lt C 30 (by decide) dX8_word_22 (fun q15 => ?_) (fun q15 => ?_)
      · replace h := h.1 q15
        exact x_throw (k := 1) CC xt_ioobe (is := 168) (text := _) (by simp [lstr]; rfl) h dX8_word_30 dX8_word_33 dX8_word_34 dX8_word_36 dX8_word_39 (by decide) (by decide) (by decide) (by decide) (by decide) (by decide)
      · replace h := h.2 q15
        refine v_iload_n C 2 rfl rfl dX8_word_25 ?_
        refine v_iconst (v := (1 : Int32)) C dX8_word_26 (by decide) ?_
        refine v_icmp_le C 40 (by decide) dX8_word_27 (fun q14 => ?_) (fun q14 => ?_)
        · replace h := h.1 q14
          refine v_aload_n C 0 rfl rfl dX8_word_40 ?_
          refine gf_X8_54 C dX8_word_41 ?_
          refine v_iload_n C 1 rfl rfl dX8_word_44 ?_
          obtain ⟨P4, hs, h⟩ := h
          refine v_callVi C 7 [.int x1] (by decide) rfl rfl rfl (so_X4_startOfWord x1 μ2 P4 hs) gw_X8_170 rfl rfl dd_X4_startOfWord ⟨by decide, by decide⟩ rfl rfl (Nat.le_of_ble_eq_true rfl) ⟨by decide, by decide⟩ dX8_word_45 (fun r7 μ5 q6 => ?_)
          replace h := h r7 μ5 q6
          refine v_istore_n C [(3, .int r7), (0, .ref (eAd E 0)), (1, .int x1), (2, .int x2)] rfl (by decide) rfl dX8_word_48 ?_
          refine v_iload_n C 0 rfl rfl dX8_word_49 ?_
          refine v_if_ge C 63 (by decide) dX8_word_50 (fun q13 => ?_) (fun q13 => ?_)
          · replace h := h.1 q13
            refine v_iload_n C 3 rfl rfl dX8_word_63 ?_
            refine v_if_ne C 71 (by decide) dX8_word_64 (fun q12 => ?_) (fun q12 => ?_)
            · replace h := h.1 q12
              refine v_aload_n C 1 rfl rfl dX8_word_71 ?_
              refine gf_X8_54 C dX8_word_72 ?_
              refine v_iload_n C 0 rfl rfl dX8_word_75 ?_
              obtain ⟨P8, hs, h⟩ := h
              refine v_callVi C 7 [.int r7] (by decide) rfl rfl rfl (so_X4_endOfWord r7 μ5 P8 hs) gw_X8_176 rfl rfl dd_X4_endOfWord ⟨by decide, by decide⟩ rfl rfl (Nat.le_of_ble_eq_true rfl) ⟨by decide, by decide⟩ dX8_word_76 (fun r11 μ9 q10 => ?_)
              replace h := h r11 μ9 q10
              refine v_iload_n C 0 rfl rfl dX8_word_79 ?_
              refine v_isub C dX8_word_80 ?_
              exact x_iret C hr h dX8_word_81 (Nat.le_of_ble_eq_true rfl) (Nat.le_of_ble_eq_true rfl)
            · replace h := h.2 q12
              refine v_iload_n C 0 rfl rfl dX8_word_67 ?_
              refine v_goto C 81 (by decide) dX8_word_68 ?_
              exact x_iret C hr h dX8_word_81 (Nat.le_of_ble_eq_true rfl) (Nat.le_of_ble_eq_true rfl)
          · replace h := h.2 q13
            exact x_throw (k := 1) CC xt_ioobe (is := 174) (text := _) (by simp [lstr]; rfl) h dX8_word_53 dX8_word_56 dX8_word_57 dX8_word_59 dX8_word_62 (by decide) (by decide) (by decide) (by decide) (by decide) (by decide)
        · replace h := h.2 q14
          exact x_throw (k := 1) CC xt_ioobe (is := 168) (text := _) (by simp [lstr]; rfl) h dX8_word_30 dX8_word_33 dX8_word_34 dX8_word_36 dX8_word_39 (by decide) (by decide) (by decide) (by decide) (by decide) (by decide)
  · replace h := h.2 q21
    refine v_aload_n C 0 rfl rfl dX8_word_9 ?_
    refine gf_X8_54 C dX8_word_10 ?_
    obtain ⟨P17, hs, h⟩ := h
    refine v_callVi C 7 [] (by decide) rfl rfl rfl (so_X4_countWords μ2 P17 hs) gw_X8_164 rfl rfl dd_X4_countWords ⟨by decide, by decide⟩ rfl rfl (Nat.le_of_ble_eq_true rfl) ⟨by decide, by decide⟩ dX8_word_13 (fun r20 μ18 q19 => ?_)
    replace h := h r20 μ18 q19
    exact x_iret C hr h dX8_word_16 (Nat.le_of_ble_eq_true rfl) (Nat.le_of_ble_eq_true rfl)
set_option maxRecDepth 10000 in
set_option maxHeartbeats 4000000 in
theorem ox_X8_word {l : Launch} {E : EvT} (hl9 : l.stackTraces = false) (x1 : Int32) (x2 : Int32) (μ : MemT) (P : Int32 → MemT → Prop) (PX : String → MemT → Prop) (h : sx_X8_word x1 x2 μ P PX) : MXi l E yX8_word cX8_word 4 (some .int) (rmX 6 149 1) [.ref (eAd E 0), .int x1, .int x2] μ P PX 1 := by
  refine mx_entryi hl9 (by decide +kernel) (Nat.le_of_ble_eq_true rfl) (fun p e s m below meth c CC hr => ?_)
  exact ox_X8_word_0 hl9 CC hr x1 x2 μ h
set_option maxRecDepth 10000 in
set_option maxHeartbeats 4000000 in
theorem ox_X8_find_0 {p : Program} {l : Launch} {e : Env} {s : State} {m : MethodId} {args : Array Value} {below : List Frame} {meth : Method} {c : Code} {E : EvT} {P : Int32 → MemT → Prop} {PX : String → MemT → Prop} (hl9 : l.stackTraces = false) (CC : CX p l s m args meth c E cX8_find 2 RX8) (hr : meth.sig.returnType = (some .int)) (x1 : Int32) (μ : MemT) (h : tx_X8_find_0 P PX x1 μ) : V p l e (rmX 6 149 1) s m args below meth c E 2 0 0 (QXi below E P PX args s 1) 0 [(0, .ref (eAd E 0)), (1, .int x1)] [] μ := by
  have C := CC.1
  unfold tx_X8_find_0 at h
  refine v_iload_n C 1 rfl rfl dX8_find_0 ?_
  refine v_if_lt C 10 (by decide) dX8_find_1 (fun q15 => ?_) (fun q15 => ?_)
  · replace h := h.1 q15
    exact x_throw (k := 1) CC xt_iae (is := 180) (text := _) (by simp [lstr]; rfl) h dX8_find_10 dX8_find_13 dX8_find_14 dX8_find_16 dX8_find_19 (by decide) (by decide) (by decide) (by decide) (by decide) (by decide)
  · replace h := h.2 q15
    refine v_iload_n C 1 rfl rfl dX8_find_4 ?_
    refine v_ldc C gc_X8_179 dX8_find_5 ?_
    refine v_icmp_le C 20 (by decide) dX8_find_7 (fun q14 => ?_) (fun q14 => ?_)
    · replace h := h.1 q14
      refine v_iload_n C 1 rfl rfl dX8_find_20 ?_
      refine v_if_ne C 40 (by decide) dX8_find_21 (fun q13 => ?_) (fun q13 => ?_)
      · replace h := h.1 q13
        refine v_aload_n C 0 rfl rfl dX8_find_40 ?_
        refine gf_X8_61 C dX8_find_41 ?_
        refine gf_X8_186 C dX8_find_44 ?_
        refine v_bipush (v := (20 : Int32)) C dX8_find_47 (by decide) ?_
        refine v_icmp_lt C 62 (by decide) dX8_find_49 (fun q5 => ?_) (fun q5 => ?_)
        · replace h := h.1 q5
          refine v_aload_n C 0 rfl rfl dX8_find_62 ?_
          refine gf_X8_61 C dX8_find_63 ?_
          refine v_iload_n C 1 rfl rfl dX8_find_66 ?_
          obtain ⟨P1, hs, h⟩ := h
          refine v_callVi C 8 [.int x1] (by decide) rfl rfl rfl (so_X5_seek x1 μ P1 hs) gw_X8_191 rfl rfl dd_X5_seek ⟨by decide, by decide⟩ rfl rfl (Nat.le_of_ble_eq_true rfl) ⟨by decide, by decide⟩ dX8_find_67 (fun r4 μ2 q3 => ?_)
          replace h := h r4 μ2 q3
          exact x_iret C hr h dX8_find_70 (Nat.le_of_ble_eq_true rfl) (Nat.le_of_ble_eq_true rfl)
        · replace h := h.2 q5
          exact x_throw (k := 1) CC xt_uoe (is := 189) (text := _) (by simp [lstr]; rfl) h dX8_find_52 dX8_find_55 dX8_find_56 dX8_find_58 dX8_find_61 (by decide) (by decide) (by decide) (by decide) (by decide) (by decide)
      · replace h := h.2 q13
        refine v_aload_n C 0 rfl rfl dX8_find_24 ?_
        obtain ⟨P6, hs, h⟩ := h
        refine v_callVv C 0 [] (by decide) rfl rfl rfl (so_X8_refresh μ P6 hs) gw_X8_128 rfl rfl dd_X8_refresh ⟨by decide, by decide⟩ rfl rfl (Nat.le_of_ble_eq_true rfl) ⟨by decide, by decide⟩ dX8_find_25 (fun μ7 q8 => ?_)
        replace h := h μ7 q8
        refine v_aload_n C 0 rfl rfl dX8_find_28 ?_
        refine gf_X8_61 C dX8_find_29 ?_
        refine v_aload_n C 0 rfl rfl dX8_find_32 ?_
        refine gf_X8_54 C dX8_find_33 ?_
        obtain ⟨P9, hs, h⟩ := h
        refine v_callVi C 8 [.ref (eAd E 7)] (by decide) rfl rfl rfl (so_X5_run μ7 P9 hs) gw_X8_182 rfl rfl dd_X5_run ⟨by decide, by decide⟩ rfl rfl (Nat.le_of_ble_eq_true rfl) ⟨by decide, by decide⟩ dX8_find_36 (fun r12 μ10 q11 => ?_)
        replace h := h r12 μ10 q11
        exact x_iret C hr h dX8_find_39 (Nat.le_of_ble_eq_true rfl) (Nat.le_of_ble_eq_true rfl)
    · replace h := h.2 q14
      exact x_throw (k := 1) CC xt_iae (is := 180) (text := _) (by simp [lstr]; rfl) h dX8_find_10 dX8_find_13 dX8_find_14 dX8_find_16 dX8_find_19 (by decide) (by decide) (by decide) (by decide) (by decide) (by decide)
set_option maxRecDepth 10000 in
set_option maxHeartbeats 4000000 in
theorem ox_X8_find {l : Launch} {E : EvT} (hl9 : l.stackTraces = false) (x1 : Int32) (μ : MemT) (P : Int32 → MemT → Prop) (PX : String → MemT → Prop) (h : sx_X8_find x1 μ P PX) : MXi l E yX8_find cX8_find 2 (some .int) (rmX 6 149 1) [.ref (eAd E 0), .int x1] μ P PX 1 := by
  refine mx_entryi hl9 (by decide +kernel) (Nat.le_of_ble_eq_true rfl) (fun p e s m below meth c CC hr => ?_)
  exact ox_X8_find_0 hl9 CC hr x1 μ h
set_option maxRecDepth 10000 in
set_option maxHeartbeats 4000000 in
theorem ox_X8_found_0 {p : Program} {l : Launch} {e : Env} {s : State} {m : MethodId} {args : Array Value} {below : List Frame} {meth : Method} {c : Code} {E : EvT} {P : Int32 → MemT → Prop} {PX : String → MemT → Prop} (hl9 : l.stackTraces = false) (CC : CX p l s m args meth c E cX8_found 2 RX8) (hr : meth.sig.returnType = (some .int)) (x1 : Int32) (μ : MemT) (h : tx_X8_found_0 P PX x1 μ) : V p l e (rmX 7 112 1) s m args below meth c E 2 0 0 (QXi below E P PX args s 1) 0 [(0, .ref (eAd E 0)), (1, .int x1)] [] μ := by
  have C := CC.1
  unfold tx_X8_found_0 at h
  refine v_aload_n C 0 rfl rfl dX8_found_0 ?_
  refine v_iload_n C 1 rfl rfl dX8_found_1 ?_
  refine v_aload_n C 0 rfl rfl dX8_found_2 ?_
  refine gf_X8_61 C dX8_found_3 ?_
  refine gf_X8_194 C dX8_found_6 ?_
  obtain ⟨P1, hs, h⟩ := h
  refine x_callVv (kk9 := 1) CC 0 [.int x1, .int (μ.2.2.1 8)] (by decide) rfl rfl rfl (ox_X8_requireWithin hl9 x1 (μ.2.2.1 8) μ P1 _ hs) gw_X8_132 rfl rfl dd_X8_requireWithin ⟨by decide, by decide⟩ rfl rfl (Nat.le_of_ble_eq_true rfl) ⟨by decide, by decide⟩ dX8_found_9 ⟨by decide, by decide⟩ (fun _ _ h => h) (fun μ2 q3 => ?_)
  replace h := h μ2 q3
  refine v_aload_n C 0 rfl rfl dX8_found_12 ?_
  refine gf_X8_61 C dX8_found_13 ?_
  refine gf_X8_197 C dX8_found_16 ?_
  refine v_iload_n C 1 rfl rfl dX8_found_19 ?_
  obtain ⟨b4, h⟩ := h
  refine v_iald C 43 (by decide) rfl b4 dX8_found_20 ?_
  exact x_iret C hr h dX8_found_21 (Nat.le_of_ble_eq_true rfl) (Nat.le_of_ble_eq_true rfl)
set_option maxRecDepth 10000 in
set_option maxHeartbeats 4000000 in
theorem ox_X8_found {l : Launch} {E : EvT} (hl9 : l.stackTraces = false) (x1 : Int32) (μ : MemT) (P : Int32 → MemT → Prop) (PX : String → MemT → Prop) (h : sx_X8_found x1 μ P PX) : MXi l E yX8_found cX8_found 2 (some .int) (rmX 7 112 1) [.ref (eAd E 0), .int x1] μ P PX 1 := by
  refine mx_entryi hl9 (by decide +kernel) (Nat.le_of_ble_eq_true rfl) (fun p e s m below meth c CC hr => ?_)
  exact ox_X8_found_0 hl9 CC hr x1 μ h
