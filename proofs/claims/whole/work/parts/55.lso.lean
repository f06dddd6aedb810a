/-! Their soundness. -/
theorem gk_L_13 : Cond.classLink RL 13 "java/lang/IllegalArgumentException" ∈ lgood := (mgT 484 (by decide +kernel) (by decide +kernel))
theorem kt_13 : Cond.castable "java/lang/IllegalArgumentException" "java/lang/IllegalArgumentException" ∈ lw_tbl := List.mem_append_right _ (List.mem_of_getElem? (i := 497) (by decide +kernel))
theorem gk_L_15 : Cond.classLink RL 15 "java/lang/UnsupportedOperationException" ∈ lgood := (mgT 485 (by decide +kernel) (by decide +kernel))
theorem kt_15 : Cond.castable "java/lang/UnsupportedOperationException" "java/lang/UnsupportedOperationException" ∈ lw_tbl := List.mem_append_right _ (List.mem_of_getElem? (i := 568) (by decide +kernel))
theorem gk_L_21 : Cond.classLink RL 21 "java/util/NoSuchElementException" ∈ lgood := (mgT 589 (by decide +kernel) (by decide +kernel))
theorem kt_21 : Cond.castable "java/util/NoSuchElementException" "java/util/NoSuchElementException" ∈ lw_tbl := List.mem_append_right _ (List.mem_of_getElem? (i := 600) (by decide +kernel))
theorem gk_L_27 : Cond.classLink RL 27 "java/lang/IndexOutOfBoundsException" ∈ lgood := (mgT 617 (by decide +kernel) (by decide +kernel))
theorem kt_27 : Cond.castable "java/lang/IndexOutOfBoundsException" "java/lang/IndexOutOfBoundsException" ∈ lw_tbl := List.mem_append_right _ (List.mem_of_getElem? (i := 647) (by decide +kernel))
theorem gk_L_57 : Cond.classLink RL 57 "java/lang/ArithmeticException" ∈ lgood := (mgT 730 (by decide +kernel) (by decide +kernel))
theorem kt_57 : Cond.castable "java/lang/ArithmeticException" "java/lang/ArithmeticException" ∈ lw_tbl := List.mem_append_right _ (List.mem_of_getElem? (i := 742) (by decide +kernel))
set_option maxRecDepth 10000 in
set_option maxHeartbeats 4000000 in
theorem ol_L_sign_0 {p : Program} {l : Launch} {e : Env} {s : State} {m : MethodId} {args : Array Value} {below : List Frame} {meth : Method} {c : Code} {E : EvT} {P : Int32 → MemT → Prop} (hl9 : l.stackTraces = false) (CC : CH p l s m args meth c E cL_sign 11 RL [(0, 17, 20, 13), (0, 17, 24, 15)]) (hr : meth.sig.returnType = (some .int)) (x1 : Int32) (x2 : Int64) (x4 : Int64) (x6 : Int64) (x8 : Int32) (μ : MemT) (h : tl_L_sign_0 P x1 x2 x4 x6 x8 μ) : V p l e (rmX 7 119 1) s m args below meth c E 11 0 0 (QXi below E P (fun _ _ => False) args s 1) 0 [(0, .ref (eAd E 0)), (1, .int x1), (2, .long x2), (4, .long x4), (6, .long x6), (8, .int x8), (9, .ref (eAd E 76))] [] μ := by
  have C := CC.1
  unfold tl_L_sign_0 at h
  refine v_aload C 6 rfl dL_sign_0 ?_
  refine v_iconst (v := (0 : Int32)) C dL_sign_2 (by decide) ?_
  refine v_aload_n C 0 rfl rfl dL_sign_3 ?_
  refine v_iload_n C 1 rfl rfl dL_sign_4 ?_
  refine v_lload_n C 2 rfl rfl dL_sign_5 ?_
  refine v_lload C 3 rfl dL_sign_6 ?_
  refine v_lload C 4 rfl dL_sign_8 ?_
  refine v_iload C 5 rfl dL_sign_10 ?_
  obtain ⟨P1, Q1, hs, hx, h⟩ := h
  refine y_callVi (kc := 1) CC 0 [.int x1, .long x2, .long x4, .long x6, .int x8] (by decide) rfl rfl rfl (ox_X8_sign hl9 x1 x2 x4 x6 x8 μ P1 Q1 hs) gw_L_7 rfl rfl dd_X8_sign ⟨by decide, by decide⟩ rfl rfl (Nat.le_of_ble_eq_true rfl) ⟨by decide, by decide⟩ dL_sign_12 (fun X0 μ0 hX0 => ?_) (fun r4 μ2 q3 => ?_)
  · rcases hx X0 μ0 hX0 with ⟨rfl, hh0⟩ | ⟨rfl, hh0⟩
    · refine y_catch (name := "java/lang/IllegalArgumentException") CC [] (0, 17, 20, 13) [(0, 17, 24, 15)] rfl (by simp) ⟨by decide, by decide⟩ (by decide) gk_L_13 kt_13 (fun q0 => ?_)
      refine v_astore C [(10, .ref q0), (0, .ref (eAd E 0)), (1, .int x1), (2, .long x2), (4, .long x4), (6, .long x6), (8, .int x8), (9, .ref (eAd E 76))] (by decide) rfl dL_sign_20 ?_
      refine v_iconst (v := (1 : Int32)) C dL_sign_22 (by decide) ?_
      exact x_iret C hr hh0 dL_sign_23 (Nat.le_of_ble_eq_true rfl) (Nat.le_of_ble_eq_true rfl)
    · refine y_catch (name := "java/lang/UnsupportedOperationException") CC [(0, 17, 20, 13)] (0, 17, 24, 15) [] rfl (fun z hz => by rcases List.mem_singleton.mp hz with rfl; exact ⟨"java/lang/IllegalArgumentException", gk_L_13, by decide, by decide⟩) ⟨by decide, by decide⟩ (by decide) gk_L_15 kt_15 (fun q0 => ?_)
      refine v_astore C [(10, .ref q0), (0, .ref (eAd E 0)), (1, .int x1), (2, .long x2), (4, .long x4), (6, .long x6), (8, .int x8), (9, .ref (eAd E 76))] (by decide) rfl dL_sign_24 ?_
      refine v_iconst (v := (2 : Int32)) C dL_sign_26 (by decide) ?_
      exact x_iret C hr hh0 dL_sign_27 (Nat.le_of_ble_eq_true rfl) (Nat.le_of_ble_eq_true rfl)
  · replace h := h r4 μ2 q3
    refine v_i2l C dL_sign_15 ?_
    obtain ⟨b5, h⟩ := h
    refine v_last C 76 (by decide) rfl b5 dL_sign_16 ?_
    refine v_nmM (fun μ6 e_μ6 => ?_)
    replace h := h μ6 e_μ6
    refine v_goto C 28 (by decide) dL_sign_17 ?_
    refine v_iconst (v := (0 : Int32)) C dL_sign_28 (by decide) ?_
    exact x_iret C hr h dL_sign_29 (Nat.le_of_ble_eq_true rfl) (Nat.le_of_ble_eq_true rfl)
set_option maxRecDepth 10000 in
set_option maxHeartbeats 4000000 in
theorem ol_L_sign {l : Launch} {E : EvT} (hl9 : l.stackTraces = false) (x1 : Int32) (x2 : Int64) (x4 : Int64) (x6 : Int64) (x8 : Int32) (μ : MemT) (P : Int32 → MemT → Prop) (h : sl_L_sign x1 x2 x4 x6 x8 μ P) : MLi l E yL_sign cL_sign 11 (some .int) [(0, 17, 20, 13), (0, 17, 24, 15)] (rmX 7 119 1) [.ref (eAd E 0), .int x1, .long x2, .long x4, .long x6, .int x8, .ref (eAd E 76)] μ P 1 := by
  refine ml_entry hl9 (by decide +kernel) (Nat.le_of_ble_eq_true rfl) (fun p e s m below meth c CC hr => ?_)
  exact ol_L_sign_0 hl9 CC hr x1 x2 x4 x6 x8 μ h
set_option maxRecDepth 10000 in
set_option maxHeartbeats 4000000 in
theorem ol_L_turn_0 {p : Program} {l : Launch} {e : Env} {s : State} {m : MethodId} {args : Array Value} {below : List Frame} {meth : Method} {c : Code} {E : EvT} {P : Int32 → MemT → Prop} (hl9 : l.stackTraces = false) (CC : CH p l s m args meth c E cL_turn 5 RL [(0, 10, 13, 21)]) (hr : meth.sig.returnType = (some .int)) (x1 : Int32) (x2 : Int32) (μ : MemT) (h : tl_L_turn_0 P x1 x2 μ) : V p l e (rmX 8 134 1) s m args below meth c E 5 0 0 (QXi below E P (fun _ _ => False) args s 1) 0 [(0, .ref (eAd E 0)), (1, .int x1), (2, .int x2), (3, .ref (eAd E 76))] [] μ := by
  have C := CC.1
  unfold tl_L_turn_0 at h
  refine v_aload_n C 3 rfl rfl dL_turn_0 ?_
  refine v_iconst (v := (0 : Int32)) C dL_turn_1 (by decide) ?_
  refine v_aload_n C 0 rfl rfl dL_turn_2 ?_
  refine v_iload_n C 1 rfl rfl dL_turn_3 ?_
  refine v_iload_n C 2 rfl rfl dL_turn_4 ?_
  obtain ⟨P1, Q1, hs, hx, h⟩ := h
  refine y_callVi (kc := 1) CC 0 [.int x1, .int x2] (by decide) rfl rfl rfl (ox_X8_turn hl9 x1 x2 μ P1 Q1 hs) gw_L_17 rfl rfl dd_X8_turn ⟨by decide, by decide⟩ rfl rfl (Nat.le_of_ble_eq_true rfl) ⟨by decide, by decide⟩ dL_turn_5 (fun X0 μ0 hX0 => ?_) (fun r4 μ2 q3 => ?_)
  · obtain ⟨rfl, hh0⟩ := hx X0 μ0 hX0
    refine y_catch (name := "java/util/NoSuchElementException") CC [] (0, 10, 13, 21) [] rfl (by simp) ⟨by decide, by decide⟩ (by decide) gk_L_21 kt_21 (fun q0 => ?_)
    refine v_astore C [(4, .ref q0), (0, .ref (eAd E 0)), (1, .int x1), (2, .int x2), (3, .ref (eAd E 76))] (by decide) rfl dL_turn_13 ?_
    refine v_iconst (v := (1 : Int32)) C dL_turn_15 (by decide) ?_
    exact x_iret C hr hh0 dL_turn_16 (Nat.le_of_ble_eq_true rfl) (Nat.le_of_ble_eq_true rfl)
  · replace h := h r4 μ2 q3
    refine v_i2l C dL_turn_8 ?_
    obtain ⟨b5, h⟩ := h
    refine v_last C 76 (by decide) rfl b5 dL_turn_9 ?_
    refine v_nmM (fun μ6 e_μ6 => ?_)
    replace h := h μ6 e_μ6
    refine v_goto C 17 (by decide) dL_turn_10 ?_
    refine v_iconst (v := (0 : Int32)) C dL_turn_17 (by decide) ?_
    exact x_iret C hr h dL_turn_18 (Nat.le_of_ble_eq_true rfl) (Nat.le_of_ble_eq_true rfl)
set_option maxRecDepth 10000 in
set_option maxHeartbeats 4000000 in
theorem ol_L_turn {l : Launch} {E : EvT} (hl9 : l.stackTraces = false) (x1 : Int32) (x2 : Int32) (μ : MemT) (P : Int32 → MemT → Prop) (h : sl_L_turn x1 x2 μ P) : MLi l E yL_turn cL_turn 5 (some .int) [(0, 10, 13, 21)] (rmX 8 134 1) [.ref (eAd E 0), .int x1, .int x2, .ref (eAd E 76)] μ P 1 := by
  refine ml_entry hl9 (by decide +kernel) (Nat.le_of_ble_eq_true rfl) (fun p e s m below meth c CC hr => ?_)
  exact ol_L_turn_0 hl9 CC hr x1 x2 μ h
set_option maxRecDepth 10000 in
set_option maxHeartbeats 4000000 in
theorem ol_L_map_0 {p : Program} {l : Launch} {e : Env} {s : State} {m : MethodId} {args : Array Value} {below : List Frame} {meth : Method} {c : Code} {E : EvT} {P : Int32 → MemT → Prop} (hl9 : l.stackTraces = false) (CC : CH p l s m args meth c E cL_map 7 RL [(0, 14, 17, 27), (0, 14, 21, 13)]) (hr : meth.sig.returnType = (some .int)) (x1 : Int32) (x2 : Int32) (x3 : Int32) (x4 : Int32) (μ : MemT) (h : tl_L_map_0 P x1 x2 x3 x4 μ) : V p l e (rmX 7 115 1) s m args below meth c E 7 0 0 (QXi below E P (fun _ _ => False) args s 1) 0 [(0, .ref (eAd E 0)), (1, .int x1), (2, .int x2), (3, .int x3), (4, .int x4), (5, .ref (eAd E 76))] [] μ := by
  have C := CC.1
  unfold tl_L_map_0 at h
  refine v_aload C 5 rfl dL_map_0 ?_
  refine v_iconst (v := (0 : Int32)) C dL_map_2 (by decide) ?_
  refine v_aload_n C 0 rfl rfl dL_map_3 ?_
  refine v_iload_n C 1 rfl rfl dL_map_4 ?_
  refine v_iload_n C 2 rfl rfl dL_map_5 ?_
  refine v_iload_n C 3 rfl rfl dL_map_6 ?_
  refine v_iload C 4 rfl dL_map_7 ?_
  obtain ⟨P1, Q1, hs, hx, h⟩ := h
  refine y_callVi (kc := 1) CC 0 [.int x1, .int x2, .int x3, .int x4] (by decide) rfl rfl rfl (ox_X8_map hl9 x1 x2 x3 x4 μ P1 Q1 hs) gw_L_23 rfl rfl dd_X8_map ⟨by decide, by decide⟩ rfl rfl (Nat.le_of_ble_eq_true rfl) ⟨by decide, by decide⟩ dL_map_9 (fun X0 μ0 hX0 => ?_) (fun r4 μ2 q3 => ?_)
  · rcases hx X0 μ0 hX0 with ⟨rfl, hh0⟩ | ⟨rfl, hh0⟩
    · refine y_catch (name := "java/lang/IndexOutOfBoundsException") CC [] (0, 14, 17, 27) [(0, 14, 21, 13)] rfl (by simp) ⟨by decide, by decide⟩ (by decide) gk_L_27 kt_27 (fun q0 => ?_)
      refine v_astore C [(6, .ref q0), (0, .ref (eAd E 0)), (1, .int x1), (2, .int x2), (3, .int x3), (4, .int x4), (5, .ref (eAd E 76))] (by decide) rfl dL_map_17 ?_
      refine v_iconst (v := (1 : Int32)) C dL_map_19 (by decide) ?_
      exact x_iret C hr hh0 dL_map_20 (Nat.le_of_ble_eq_true rfl) (Nat.le_of_ble_eq_true rfl)
    · refine y_catch (name := "java/lang/IllegalArgumentException") CC [(0, 14, 17, 27)] (0, 14, 21, 13) [] rfl (fun z hz => by rcases List.mem_singleton.mp hz with rfl; exact ⟨"java/lang/IndexOutOfBoundsException", gk_L_27, by decide, by decide⟩) ⟨by decide, by decide⟩ (by decide) gk_L_13 kt_13 (fun q0 => ?_)
      refine v_astore C [(6, .ref q0), (0, .ref (eAd E 0)), (1, .int x1), (2, .int x2), (3, .int x3), (4, .int x4), (5, .ref (eAd E 76))] (by decide) rfl dL_map_21 ?_
      refine v_iconst (v := (2 : Int32)) C dL_map_23 (by decide) ?_
      exact x_iret C hr hh0 dL_map_24 (Nat.le_of_ble_eq_true rfl) (Nat.le_of_ble_eq_true rfl)
  · replace h := h r4 μ2 q3
    refine v_i2l C dL_map_12 ?_
    obtain ⟨b5, h⟩ := h
    refine v_last C 76 (by decide) rfl b5 dL_map_13 ?_
    refine v_nmM (fun μ6 e_μ6 => ?_)
    replace h := h μ6 e_μ6
    refine v_goto C 25 (by decide) dL_map_14 ?_
    refine v_iconst (v := (0 : Int32)) C dL_map_25 (by decide) ?_
    exact x_iret C hr h dL_map_26 (Nat.le_of_ble_eq_true rfl) (Nat.le_of_ble_eq_true rfl)
set_option maxRecDepth 10000 in
set_option maxHeartbeats 4000000 in
theorem ol_L_map {l : Launch} {E : EvT} (hl9 : l.stackTraces = false) (x1 : Int32) (x2 : Int32) (x3 : Int32) (x4 : Int32) (μ : MemT) (P : Int32 → MemT → Prop) (h : sl_L_map x1 x2 x3 x4 μ P) : MLi l E yL_map cL_map 7 (some .int) [(0, 14, 17, 27), (0, 14, 21, 13)] (rmX 7 115 1) [.ref (eAd E 0), .int x1, .int x2, .int x3, .int x4, .ref (eAd E 76)] μ P 1 := by
  refine ml_entry hl9 (by decide +kernel) (Nat.le_of_ble_eq_true rfl) (fun p e s m below meth c CC hr => ?_)
  exact ol_L_map_0 hl9 CC hr x1 x2 x3 x4 μ h
set_option maxRecDepth 10000 in
set_option maxHeartbeats 4000000 in
theorem ol_L_tag_0 {p : Program} {l : Launch} {e : Env} {s : State} {m : MethodId} {args : Array Value} {below : List Frame} {meth : Method} {c : Code} {E : EvT} {P : Int32 → MemT → Prop} (hl9 : l.stackTraces = false) (CC : CH p l s m args meth c E cL_tag 5 RL [(0, 10, 13, 21), (0, 10, 17, 13)]) (hr : meth.sig.returnType = (some .int)) (x1 : Int32) (x2 : Int32) (μ : MemT) (h : tl_L_tag_0 P x1 x2 μ) : V p l e (rmX 8 134 2) s m args below meth c E 5 0 0 (QXi below E P (fun _ _ => False) args s 2) 0 [(0, .ref (eAd E 0)), (1, .int x1), (2, .int x2), (3, .ref (eAd E 76))] [] μ := by
  have C := CC.1
  unfold tl_L_tag_0 at h
  refine v_aload_n C 3 rfl rfl dL_tag_0 ?_
  refine v_iconst (v := (0 : Int32)) C dL_tag_1 (by decide) ?_
  refine v_aload_n C 0 rfl rfl dL_tag_2 ?_
  refine v_iload_n C 1 rfl rfl dL_tag_3 ?_
  refine v_iload_n C 2 rfl rfl dL_tag_4 ?_
  obtain ⟨P1, Q1, hs, hx, h⟩ := h
  refine y_callVi (kc := 2) CC 0 [.int x1, .int x2] (by decide) rfl rfl rfl (ox_X8_tag hl9 x1 x2 μ P1 Q1 hs) gw_L_29 rfl rfl dd_X8_tag ⟨by decide, by decide⟩ rfl rfl (Nat.le_of_ble_eq_true rfl) ⟨by decide, by decide⟩ dL_tag_5 (fun X0 μ0 hX0 => ?_) (fun r4 μ2 q3 => ?_)
  · rcases hx X0 μ0 hX0 with ⟨rfl, hh0⟩ | ⟨rfl, hh0⟩
    · refine y_catch (name := "java/util/NoSuchElementException") CC [] (0, 10, 13, 21) [(0, 10, 17, 13)] rfl (by simp) ⟨by decide, by decide⟩ (by decide) gk_L_21 kt_21 (fun q0 => ?_)
      refine v_astore C [(4, .ref q0), (0, .ref (eAd E 0)), (1, .int x1), (2, .int x2), (3, .ref (eAd E 76))] (by decide) rfl dL_tag_13 ?_
      refine v_iconst (v := (1 : Int32)) C dL_tag_15 (by decide) ?_
      exact x_iret C hr hh0 dL_tag_16 (Nat.le_of_ble_eq_true rfl) (Nat.le_of_ble_eq_true rfl)
    · refine y_catch (name := "java/lang/IllegalArgumentException") CC [(0, 10, 13, 21)] (0, 10, 17, 13) [] rfl (fun z hz => by rcases List.mem_singleton.mp hz with rfl; exact ⟨"java/util/NoSuchElementException", gk_L_21, by decide, by decide⟩) ⟨by decide, by decide⟩ (by decide) gk_L_13 kt_13 (fun q0 => ?_)
      refine v_astore C [(4, .ref q0), (0, .ref (eAd E 0)), (1, .int x1), (2, .int x2), (3, .ref (eAd E 76))] (by decide) rfl dL_tag_17 ?_
      refine v_iconst (v := (2 : Int32)) C dL_tag_19 (by decide) ?_
      exact x_iret C hr hh0 dL_tag_20 (Nat.le_of_ble_eq_true rfl) (Nat.le_of_ble_eq_true rfl)
  · replace h := h r4 μ2 q3
    refine v_i2l C dL_tag_8 ?_
    obtain ⟨b5, h⟩ := h
    refine v_last C 76 (by decide) rfl b5 dL_tag_9 ?_
    refine v_nmM (fun μ6 e_μ6 => ?_)
    replace h := h μ6 e_μ6
    refine v_goto C 21 (by decide) dL_tag_10 ?_
    refine v_iconst (v := (0 : Int32)) C dL_tag_21 (by decide) ?_
    exact x_iret C hr h dL_tag_22 (Nat.le_of_ble_eq_true rfl) (Nat.le_of_ble_eq_true rfl)
set_option maxRecDepth 10000 in
set_option maxHeartbeats 4000000 in
theorem ol_L_tag {l : Launch} {E : EvT} (hl9 : l.stackTraces = false) (x1 : Int32) (x2 : Int32) (μ : MemT) (P : Int32 → MemT → Prop) (h : sl_L_tag x1 x2 μ P) : MLi l E yL_tag cL_tag 5 (some .int) [(0, 10, 13, 21), (0, 10, 17, 13)] (rmX 8 134 2) [.ref (eAd E 0), .int x1, .int x2, .ref (eAd E 76)] μ P 2 := by
  refine ml_entry hl9 (by decide +kernel) (Nat.le_of_ble_eq_true rfl) (fun p e s m below meth c CC hr => ?_)
  exact ol_L_tag_0 hl9 CC hr x1 x2 μ h
set_option maxRecDepth 10000 in
set_option maxHeartbeats 4000000 in
theorem ol_L_letter_0 {p : Program} {l : Launch} {e : Env} {s : State} {m : MethodId} {args : Array Value} {below : List Frame} {meth : Method} {c : Code} {E : EvT} {P : Int32 → MemT → Prop} (hl9 : l.stackTraces = false) (CC : CH p l s m args meth c E cL_letter 4 RL [(0, 9, 12, 27)]) (hr : meth.sig.returnType = (some .int)) (x1 : Int32) (μ : MemT) (h : tl_L_letter_0 P x1 μ) : V p l e (rmX 8 170 1) s m args below meth c E 4 0 0 (QXi below E P (fun _ _ => False) args s 1) 0 [(0, .ref (eAd E 0)), (1, .int x1), (2, .ref (eAd E 76))] [] μ := by
  have C := CC.1
  unfold tl_L_letter_0 at h
  refine v_aload_n C 2 rfl rfl dL_letter_0 ?_
  refine v_iconst (v := (0 : Int32)) C dL_letter_1 (by decide) ?_
  refine v_aload_n C 0 rfl rfl dL_letter_2 ?_
  refine v_iload_n C 1 rfl rfl dL_letter_3 ?_
  obtain ⟨P1, Q1, hs, hx, h⟩ := h
  refine y_callVi (kc := 1) CC 0 [.int x1] (by decide) rfl rfl rfl (ox_X8_letter hl9 x1 μ P1 Q1 hs) gw_L_33 rfl rfl dd_X8_letter ⟨by decide, by decide⟩ rfl rfl (Nat.le_of_ble_eq_true rfl) ⟨by decide, by decide⟩ dL_letter_4 (fun X0 μ0 hX0 => ?_) (fun r4 μ2 q3 => ?_)
  · obtain ⟨rfl, hh0⟩ := hx X0 μ0 hX0
    refine y_catch (name := "java/lang/IndexOutOfBoundsException") CC [] (0, 9, 12, 27) [] rfl (by simp) ⟨by decide, by decide⟩ (by decide) gk_L_27 kt_27 (fun q0 => ?_)
    refine v_astore_n C [(3, .ref q0), (0, .ref (eAd E 0)), (1, .int x1), (2, .ref (eAd E 76))] rfl (by decide) rfl dL_letter_12 ?_
    refine v_iconst (v := (1 : Int32)) C dL_letter_13 (by decide) ?_
    exact x_iret C hr hh0 dL_letter_14 (Nat.le_of_ble_eq_true rfl) (Nat.le_of_ble_eq_true rfl)
  · replace h := h r4 μ2 q3
    refine v_i2l C dL_letter_7 ?_
    obtain ⟨b5, h⟩ := h
    refine v_last C 76 (by decide) rfl b5 dL_letter_8 ?_
    refine v_nmM (fun μ6 e_μ6 => ?_)
    replace h := h μ6 e_μ6
    refine v_goto C 15 (by decide) dL_letter_9 ?_
    refine v_iconst (v := (0 : Int32)) C dL_letter_15 (by decide) ?_
    exact x_iret C hr h dL_letter_16 (Nat.le_of_ble_eq_true rfl) (Nat.le_of_ble_eq_true rfl)
set_option maxRecDepth 10000 in
set_option maxHeartbeats 4000000 in
theorem ol_L_letter {l : Launch} {E : EvT} (hl9 : l.stackTraces = false) (x1 : Int32) (μ : MemT) (P : Int32 → MemT → Prop) (h : sl_L_letter x1 μ P) : MLi l E yL_letter cL_letter 4 (some .int) [(0, 9, 12, 27)] (rmX 8 170 1) [.ref (eAd E 0), .int x1, .ref (eAd E 76)] μ P 1 := by
  refine ml_entry hl9 (by decide +kernel) (Nat.le_of_ble_eq_true rfl) (fun p e s m below meth c CC hr => ?_)
  exact ol_L_letter_0 hl9 CC hr x1 μ h
set_option maxRecDepth 10000 in
set_option maxHeartbeats 4000000 in
theorem ol_L_from_0 {p : Program} {l : Launch} {e : Env} {s : State} {m : MethodId} {args : Array Value} {below : List Frame} {meth : Method} {c : Code} {E : EvT} {P : Int32 → MemT → Prop} (hl9 : l.stackTraces = false) (CC : CH p l s m args meth c E cL_from 4 RL [(0, 9, 12, 27)]) (hr : meth.sig.returnType = (some .int)) (x1 : Int32) (μ : MemT) (h : tl_L_from_0 P x1 μ) : V p l e (rmX 8 170 1) s m args below meth c E 4 0 0 (QXi below E P (fun _ _ => False) args s 1) 0 [(0, .ref (eAd E 0)), (1, .int x1), (2, .ref (eAd E 76))] [] μ := by
  have C := CC.1
  unfold tl_L_from_0 at h
  refine v_aload_n C 2 rfl rfl dL_from_0 ?_
  refine v_iconst (v := (0 : Int32)) C dL_from_1 (by decide) ?_
  refine v_aload_n C 0 rfl rfl dL_from_2 ?_
  refine v_iload_n C 1 rfl rfl dL_from_3 ?_
  obtain ⟨P1, Q1, hs, hx, h⟩ := h
  refine y_callVi (kc := 1) CC 0 [.int x1] (by decide) rfl rfl rfl (ox_X8_from hl9 x1 μ P1 Q1 hs) gw_L_37 rfl rfl dd_X8_from ⟨by decide, by decide⟩ rfl rfl (Nat.le_of_ble_eq_true rfl) ⟨by decide, by decide⟩ dL_from_4 (fun X0 μ0 hX0 => ?_) (fun r4 μ2 q3 => ?_)
  · obtain ⟨rfl, hh0⟩ := hx X0 μ0 hX0
    refine y_catch (name := "java/lang/IndexOutOfBoundsException") CC [] (0, 9, 12, 27) [] rfl (by simp) ⟨by decide, by decide⟩ (by decide) gk_L_27 kt_27 (fun q0 => ?_)
    refine v_astore_n C [(3, .ref q0), (0, .ref (eAd E 0)), (1, .int x1), (2, .ref (eAd E 76))] rfl (by decide) rfl dL_from_12 ?_
    refine v_iconst (v := (1 : Int32)) C dL_from_13 (by decide) ?_
    exact x_iret C hr hh0 dL_from_14 (Nat.le_of_ble_eq_true rfl) (Nat.le_of_ble_eq_true rfl)
  · replace h := h r4 μ2 q3
    refine v_i2l C dL_from_7 ?_
    obtain ⟨b5, h⟩ := h
    refine v_last C 76 (by decide) rfl b5 dL_from_8 ?_
    refine v_nmM (fun μ6 e_μ6 => ?_)
    replace h := h μ6 e_μ6
    refine v_goto C 15 (by decide) dL_from_9 ?_
    refine v_iconst (v := (0 : Int32)) C dL_from_15 (by decide) ?_
    exact x_iret C hr h dL_from_16 (Nat.le_of_ble_eq_true rfl) (Nat.le_of_ble_eq_true rfl)
set_option maxRecDepth 10000 in
set_option maxHeartbeats 4000000 in
theorem ol_L_from {l : Launch} {E : EvT} (hl9 : l.stackTraces = false) (x1 : Int32) (μ : MemT) (P : Int32 → MemT → Prop) (h : sl_L_from x1 μ P) : MLi l E yL_from cL_from 4 (some .int) [(0, 9, 12, 27)] (rmX 8 170 1) [.ref (eAd E 0), .int x1, .ref (eAd E 76)] μ P 1 := by
  refine ml_entry hl9 (by decide +kernel) (Nat.le_of_ble_eq_true rfl) (fun p e s m below meth c CC hr => ?_)
  exact ol_L_from_0 hl9 CC hr x1 μ h
set_option maxRecDepth 10000 in
set_option maxHeartbeats 4000000 in
theorem ol_L_line_0 {p : Program} {l : Launch} {e : Env} {s : State} {m : MethodId} {args : Array Value} {below : List Frame} {meth : Method} {c : Code} {E : EvT} {P : Int32 → MemT → Prop} (hl9 : l.stackTraces = false) (CC : CH p l s m args meth c E cL_line 4 RL [(0, 9, 12, 21)]) (hr : meth.sig.returnType = (some .int)) (x1 : Int32) (μ : MemT) (h : tl_L_line_0 P x1 μ) : V p l e (rmX 8 170 1) s m args below meth c E 4 0 0 (QXi below E P (fun _ _ => False) args s 1) 0 [(0, .ref (eAd E 0)), (1, .int x1), (2, .ref (eAd E 76))] [] μ := by
  have C := CC.1
  unfold tl_L_line_0 at h
  refine v_aload_n C 2 rfl rfl dL_line_0 ?_
  refine v_iconst (v := (0 : Int32)) C dL_line_1 (by decide) ?_
  refine v_aload_n C 0 rfl rfl dL_line_2 ?_
  refine v_iload_n C 1 rfl rfl dL_line_3 ?_
  obtain ⟨P1, Q1, hs, hx, h⟩ := h
  refine y_callVi (kc := 1) CC 0 [.int x1] (by decide) rfl rfl rfl (ox_X8_line hl9 x1 μ P1 Q1 hs) gw_L_40 rfl rfl dd_X8_line ⟨by decide, by decide⟩ rfl rfl (Nat.le_of_ble_eq_true rfl) ⟨by decide, by decide⟩ dL_line_4 (fun X0 μ0 hX0 => ?_) (fun r4 μ2 q3 => ?_)
  · obtain ⟨rfl, hh0⟩ := hx X0 μ0 hX0
    refine y_catch (name := "java/util/NoSuchElementException") CC [] (0, 9, 12, 21) [] rfl (by simp) ⟨by decide, by decide⟩ (by decide) gk_L_21 kt_21 (fun q0 => ?_)
    refine v_astore_n C [(3, .ref q0), (0, .ref (eAd E 0)), (1, .int x1), (2, .ref (eAd E 76))] rfl (by decide) rfl dL_line_12 ?_
    refine v_iconst (v := (1 : Int32)) C dL_line_13 (by decide) ?_
    exact x_iret C hr hh0 dL_line_14 (Nat.le_of_ble_eq_true rfl) (Nat.le_of_ble_eq_true rfl)
  · replace h := h r4 μ2 q3
    refine v_i2l C dL_line_7 ?_
    obtain ⟨b5, h⟩ := h
    refine v_last C 76 (by decide) rfl b5 dL_line_8 ?_
    refine v_nmM (fun μ6 e_μ6 => ?_)
    replace h := h μ6 e_μ6
    refine v_goto C 15 (by decide) dL_line_9 ?_
    refine v_iconst (v := (0 : Int32)) C dL_line_15 (by decide) ?_
    exact x_iret C hr h dL_line_16 (Nat.le_of_ble_eq_true rfl) (Nat.le_of_ble_eq_true rfl)
set_option maxRecDepth 10000 in
set_option maxHeartbeats 4000000 in
theorem ol_L_line {l : Launch} {E : EvT} (hl9 : l.stackTraces = false) (x1 : Int32) (μ : MemT) (P : Int32 → MemT → Prop) (h : sl_L_line x1 μ P) : MLi l E yL_line cL_line 4 (some .int) [(0, 9, 12, 21)] (rmX 8 170 1) [.ref (eAd E 0), .int x1, .ref (eAd E 76)] μ P 1 := by
  refine ml_entry hl9 (by decide +kernel) (Nat.le_of_ble_eq_true rfl) (fun p e s m below meth c CC hr => ?_)
  exact ol_L_line_0 hl9 CC hr x1 μ h
set_option maxRecDepth 10000 in
set_option maxHeartbeats 4000000 in
theorem ol_L_block_0 {p : Program} {l : Launch} {e : Env} {s : State} {m : MethodId} {args : Array Value} {below : List Frame} {meth : Method} {c : Code} {E : EvT} {P : Int32 → MemT → Prop} (hl9 : l.stackTraces = false) (CC : CH p l s m args meth c E cL_block 4 RL [(0, 9, 12, 21)]) (hr : meth.sig.returnType = (some .int)) (x1 : Int32) (μ : MemT) (h : tl_L_block_0 P x1 μ) : V p l e (rmX 8 170 1) s m args below meth c E 4 0 0 (QXi below E P (fun _ _ => False) args s 1) 0 [(0, .ref (eAd E 0)), (1, .int x1), (2, .ref (eAd E 76))] [] μ := by
  have C := CC.1
  unfold tl_L_block_0 at h
  refine v_aload_n C 2 rfl rfl dL_block_0 ?_
  refine v_iconst (v := (0 : Int32)) C dL_block_1 (by decide) ?_
  refine v_aload_n C 0 rfl rfl dL_block_2 ?_
  refine v_iload_n C 1 rfl rfl dL_block_3 ?_
  obtain ⟨P1, Q1, hs, hx, h⟩ := h
  refine y_callVi (kc := 1) CC 0 [.int x1] (by decide) rfl rfl rfl (ox_X8_block hl9 x1 μ P1 Q1 hs) gw_L_43 rfl rfl dd_X8_block ⟨by decide, by decide⟩ rfl rfl (Nat.le_of_ble_eq_true rfl) ⟨by decide, by decide⟩ dL_block_4 (fun X0 μ0 hX0 => ?_) (fun r4 μ2 q3 => ?_)
  · obtain ⟨rfl, hh0⟩ := hx X0 μ0 hX0
    refine y_catch (name := "java/util/NoSuchElementException") CC [] (0, 9, 12, 21) [] rfl (by simp) ⟨by decide, by decide⟩ (by decide) gk_L_21 kt_21 (fun q0 => ?_)
    refine v_astore_n C [(3, .ref q0), (0, .ref (eAd E 0)), (1, .int x1), (2, .ref (eAd E 76))] rfl (by decide) rfl dL_block_12 ?_
    refine v_iconst (v := (1 : Int32)) C dL_block_13 (by decide) ?_
    exact x_iret C hr hh0 dL_block_14 (Nat.le_of_ble_eq_true rfl) (Nat.le_of_ble_eq_true rfl)
  · replace h := h r4 μ2 q3
    refine v_i2l C dL_block_7 ?_
    obtain ⟨b5, h⟩ := h
    refine v_last C 76 (by decide) rfl b5 dL_block_8 ?_
    refine v_nmM (fun μ6 e_μ6 => ?_)
    replace h := h μ6 e_μ6
    refine v_goto C 15 (by decide) dL_block_9 ?_
    refine v_iconst (v := (0 : Int32)) C dL_block_15 (by decide) ?_
    exact x_iret C hr h dL_block_16 (Nat.le_of_ble_eq_true rfl) (Nat.le_of_ble_eq_true rfl)
set_option maxRecDepth 10000 in
set_option maxHeartbeats 4000000 in
theorem ol_L_block {l : Launch} {E : EvT} (hl9 : l.stackTraces = false) (x1 : Int32) (μ : MemT) (P : Int32 → MemT → Prop) (h : sl_L_block x1 μ P) : MLi l E yL_block cL_block 4 (some .int) [(0, 9, 12, 21)] (rmX 8 170 1) [.ref (eAd E 0), .int x1, .ref (eAd E 76)] μ P 1 := by
  refine ml_entry hl9 (by decide +kernel) (Nat.le_of_ble_eq_true rfl) (fun p e s m below meth c CC hr => ?_)
  exact ol_L_block_0 hl9 CC hr x1 μ h
set_option maxRecDepth 10000 in
set_option maxHeartbeats 4000000 in
theorem ol_L_twice_0 {p : Program} {l : Launch} {e : Env} {s : State} {m : MethodId} {args : Array Value} {below : List Frame} {meth : Method} {c : Code} {E : EvT} {P : Int32 → MemT → Prop} (hl9 : l.stackTraces = false) (CC : CH p l s m args meth c E cL_twice 4 RL [(0, 9, 12, 21)]) (hr : meth.sig.returnType = (some .int)) (x1 : Int32) (μ : MemT) (h : tl_L_twice_0 P x1 μ) : V p l e (rmX 8 170 1) s m args below meth c E 4 0 0 (QXi below E P (fun _ _ => False) args s 1) 0 [(0, .ref (eAd E 0)), (1, .int x1), (2, .ref (eAd E 76))] [] μ := by
  have C := CC.1
  unfold tl_L_twice_0 at h
  refine v_aload_n C 2 rfl rfl dL_twice_0 ?_
  refine v_iconst (v := (0 : Int32)) C dL_twice_1 (by decide) ?_
  refine v_aload_n C 0 rfl rfl dL_twice_2 ?_
  refine v_iload_n C 1 rfl rfl dL_twice_3 ?_
  obtain ⟨P1, Q1, hs, hx, h⟩ := h
  refine y_callVi (kc := 1) CC 0 [.int x1] (by decide) rfl rfl rfl (ox_X8_twice hl9 x1 μ P1 Q1 hs) gw_L_46 rfl rfl dd_X8_twice ⟨by decide, by decide⟩ rfl rfl (Nat.le_of_ble_eq_true rfl) ⟨by decide, by decide⟩ dL_twice_4 (fun X0 μ0 hX0 => ?_) (fun r4 μ2 q3 => ?_)
  · obtain ⟨rfl, hh0⟩ := hx X0 μ0 hX0
    refine y_catch (name := "java/util/NoSuchElementException") CC [] (0, 9, 12, 21) [] rfl (by simp) ⟨by decide, by decide⟩ (by decide) gk_L_21 kt_21 (fun q0 => ?_)
    refine v_astore_n C [(3, .ref q0), (0, .ref (eAd E 0)), (1, .int x1), (2, .ref (eAd E 76))] rfl (by decide) rfl dL_twice_12 ?_
    refine v_iconst (v := (1 : Int32)) C dL_twice_13 (by decide) ?_
    exact x_iret C hr hh0 dL_twice_14 (Nat.le_of_ble_eq_true rfl) (Nat.le_of_ble_eq_true rfl)
  · replace h := h r4 μ2 q3
    refine v_i2l C dL_twice_7 ?_
    obtain ⟨b5, h⟩ := h
    refine v_last C 76 (by decide) rfl b5 dL_twice_8 ?_
    refine v_nmM (fun μ6 e_μ6 => ?_)
    replace h := h μ6 e_μ6
    refine v_goto C 15 (by decide) dL_twice_9 ?_
    refine v_iconst (v := (0 : Int32)) C dL_twice_15 (by decide) ?_
    exact x_iret C hr h dL_twice_16 (Nat.le_of_ble_eq_true rfl) (Nat.le_of_ble_eq_true rfl)
set_option maxRecDepth 10000 in
set_option maxHeartbeats 4000000 in
theorem ol_L_twice {l : Launch} {E : EvT} (hl9 : l.stackTraces = false) (x1 : Int32) (μ : MemT) (P : Int32 → MemT → Prop) (h : sl_L_twice x1 μ P) : MLi l E yL_twice cL_twice 4 (some .int) [(0, 9, 12, 21)] (rmX 8 170 1) [.ref (eAd E 0), .int x1, .ref (eAd E 76)] μ P 1 := by
  refine ml_entry hl9 (by decide +kernel) (Nat.le_of_ble_eq_true rfl) (fun p e s m below meth c CC hr => ?_)
  exact ol_L_twice_0 hl9 CC hr x1 μ h
set_option maxRecDepth 10000 in
set_option maxHeartbeats 4000000 in
theorem ol_L_space_0 {p : Program} {l : Launch} {e : Env} {s : State} {m : MethodId} {args : Array Value} {below : List Frame} {meth : Method} {c : Code} {E : EvT} {P : Int32 → MemT → Prop} (hl9 : l.stackTraces = false) (CC : CH p l s m args meth c E cL_space 4 RL [(0, 16, 19, 21)]) (hr : meth.sig.returnType = (some .int)) (x1 : Int32) (μ : MemT) (h : tl_L_space_0 P x1 μ) : V p l e (rmX 8 170 1) s m args below meth c E 4 0 0 (QXi below E P (fun _ _ => False) args s 1) 0 [(0, .ref (eAd E 0)), (1, .int x1), (2, .ref (eAd E 76))] [] μ := by
  have C := CC.1
  unfold tl_L_space_0 at h
  refine v_aload_n C 2 rfl rfl dL_space_0 ?_
  refine v_iconst (v := (0 : Int32)) C dL_space_1 (by decide) ?_
  refine v_aload_n C 0 rfl rfl dL_space_2 ?_
  refine v_iload_n C 1 rfl rfl dL_space_3 ?_
  obtain ⟨P1, Q1, hs, hx, h⟩ := h
  refine y_callVi (kc := 1) CC 0 [.int x1] (by decide) rfl rfl rfl (ox_X8_space hl9 x1 μ P1 Q1 hs) gw_L_49 rfl rfl dd_X8_space ⟨by decide, by decide⟩ rfl rfl (Nat.le_of_ble_eq_true rfl) ⟨by decide, by decide⟩ dL_space_4 (fun X0 μ0 hX0 => ?_) (fun r4 μ2 q3 => ?_)
  · obtain ⟨rfl, hh0⟩ := hx X0 μ0 hX0
    refine y_catch (name := "java/util/NoSuchElementException") CC [] (0, 16, 19, 21) [] rfl (by simp) ⟨by decide, by decide⟩ (by decide) gk_L_21 kt_21 (fun q0 => ?_)
    refine v_astore_n C [(3, .ref q0), (0, .ref (eAd E 0)), (1, .int x1), (2, .ref (eAd E 76))] rfl (by decide) rfl dL_space_19 ?_
    refine v_iconst (v := (1 : Int32)) C dL_space_20 (by decide) ?_
    exact x_iret C hr hh0 dL_space_21 (Nat.le_of_ble_eq_true rfl) (Nat.le_of_ble_eq_true rfl)
  · replace h := h r4 μ2 q3
    refine v_if_eq C 14 (by decide) dL_space_7 (fun q9 => ?_) (fun q9 => ?_)
    · replace h := h.1 q9
      refine v_lconst (v := (0 : Int64)) C dL_space_14 (by decide) ?_
      obtain ⟨b5, h⟩ := h
      refine v_last C 76 (by decide) rfl b5 dL_space_15 ?_
      refine v_nmM (fun μ6 e_μ6 => ?_)
      replace h := h μ6 e_μ6
      refine v_goto C 22 (by decide) dL_space_16 ?_
      refine v_iconst (v := (0 : Int32)) C dL_space_22 (by decide) ?_
      exact x_iret C hr h dL_space_23 (Nat.le_of_ble_eq_true rfl) (Nat.le_of_ble_eq_true rfl)
    · replace h := h.2 q9
      refine v_lconst (v := (1 : Int64)) C dL_space_10 (by decide) ?_
      refine v_goto C 15 (by decide) dL_space_11 ?_
      obtain ⟨b7, h⟩ := h
      refine v_last C 76 (by decide) rfl b7 dL_space_15 ?_
      refine v_nmM (fun μ8 e_μ8 => ?_)
      replace h := h μ8 e_μ8
      refine v_goto C 22 (by decide) dL_space_16 ?_
      refine v_iconst (v := (0 : Int32)) C dL_space_22 (by decide) ?_
      exact x_iret C hr h dL_space_23 (Nat.le_of_ble_eq_true rfl) (Nat.le_of_ble_eq_true rfl)
set_option maxRecDepth 10000 in
set_option maxHeartbeats 4000000 in
theorem ol_L_space {l : Launch} {E : EvT} (hl9 : l.stackTraces = false) (x1 : Int32) (μ : MemT) (P : Int32 → MemT → Prop) (h : sl_L_space x1 μ P) : MLi l E yL_space cL_space 4 (some .int) [(0, 16, 19, 21)] (rmX 8 170 1) [.ref (eAd E 0), .int x1, .ref (eAd E 76)] μ P 1 := by
  refine ml_entry hl9 (by decide +kernel) (Nat.le_of_ble_eq_true rfl) (fun p e s m below meth c CC hr => ?_)
  exact ol_L_space_0 hl9 CC hr x1 μ h
set_option maxRecDepth 10000 in
set_option maxHeartbeats 4000000 in
theorem ol_L_share_0 {p : Program} {l : Launch} {e : Env} {s : State} {m : MethodId} {args : Array Value} {below : List Frame} {meth : Method} {c : Code} {E : EvT} {P : Int32 → MemT → Prop} (hl9 : l.stackTraces = false) (CC : CH p l s m args meth c E cL_share 7 RL [(0, 10, 13, 57)]) (hr : meth.sig.returnType = (some .int)) (x1 : Int64) (x3 : Int64) (μ : MemT) (h : tl_L_share_0 P x1 x3 μ) : V p l e (rmX 7 114 1) s m args below meth c E 7 0 0 (QXi below E P (fun _ _ => False) args s 1) 0 [(0, .ref (eAd E 0)), (1, .long x1), (3, .long x3), (5, .ref (eAd E 76))] [] μ := by
  have C := CC.1
  unfold tl_L_share_0 at h
  refine v_aload C 3 rfl dL_share_0 ?_
  refine v_iconst (v := (0 : Int32)) C dL_share_2 (by decide) ?_
  refine v_aload_n C 0 rfl rfl dL_share_3 ?_
  refine v_lload_n C 1 rfl rfl dL_share_4 ?_
  refine v_lload_n C 2 rfl rfl dL_share_5 ?_
  obtain ⟨P1, Q1, hs, hx, h⟩ := h
  refine y_callVl (kc := 1) CC 0 [.long x1, .long x3] (by decide) rfl rfl rfl (ox_X8_share hl9 x1 x3 μ P1 Q1 hs) gw_L_53 rfl rfl dd_X8_share ⟨by decide, by decide⟩ rfl rfl (Nat.le_of_ble_eq_true rfl) ⟨by decide, by decide⟩ dL_share_6 (fun X0 μ0 hX0 => ?_) (fun r4 μ2 q3 => ?_)
  · obtain ⟨rfl, hh0⟩ := hx X0 μ0 hX0
    refine y_catch (name := "java/lang/ArithmeticException") CC [] (0, 10, 13, 57) [] rfl (by simp) ⟨by decide, by decide⟩ (by decide) gk_L_57 kt_57 (fun q0 => ?_)
    refine v_astore C [(6, .ref q0), (0, .ref (eAd E 0)), (1, .long x1), (3, .long x3), (5, .ref (eAd E 76))] (by decide) rfl dL_share_13 ?_
    refine v_iconst (v := (1 : Int32)) C dL_share_15 (by decide) ?_
    exact x_iret C hr hh0 dL_share_16 (Nat.le_of_ble_eq_true rfl) (Nat.le_of_ble_eq_true rfl)
  · replace h := h r4 μ2 q3
    obtain ⟨b5, h⟩ := h
    refine v_last C 76 (by decide) rfl b5 dL_share_9 ?_
    refine v_nmM (fun μ6 e_μ6 => ?_)
    replace h := h μ6 e_μ6
    refine v_goto C 17 (by decide) dL_share_10 ?_
    refine v_iconst (v := (0 : Int32)) C dL_share_17 (by decide) ?_
    exact x_iret C hr h dL_share_18 (Nat.le_of_ble_eq_true rfl) (Nat.le_of_ble_eq_true rfl)
set_option maxRecDepth 10000 in
set_option maxHeartbeats 4000000 in
theorem ol_L_share {l : Launch} {E : EvT} (hl9 : l.stackTraces = false) (x1 : Int64) (x3 : Int64) (μ : MemT) (P : Int32 → MemT → Prop) (h : sl_L_share x1 x3 μ P) : MLi l E yL_share cL_share 7 (some .int) [(0, 10, 13, 57)] (rmX 7 114 1) [.ref (eAd E 0), .long x1, .long x3, .ref (eAd E 76)] μ P 1 := by
  refine ml_entry hl9 (by decide +kernel) (Nat.le_of_ble_eq_true rfl) (fun p e s m below meth c CC hr => ?_)
  exact ol_L_share_0 hl9 CC hr x1 x3 μ h
set_option maxRecDepth 10000 in
set_option maxHeartbeats 4000000 in
theorem ol_L_word_0 {p : Program} {l : Launch} {e : Env} {s : State} {m : MethodId} {args : Array Value} {below : List Frame} {meth : Method} {c : Code} {E : EvT} {P : Int32 → MemT → Prop} (hl9 : l.stackTraces = false) (CC : CH p l s m args meth c E cL_word 5 RL [(0, 10, 13, 27)]) (hr : meth.sig.returnType = (some .int)) (x1 : Int32) (x2 : Int32) (μ : MemT) (h : tl_L_word_0 P x1 x2 μ) : V p l e (rmX 7 172 1) s m args below meth c E 5 0 0 (QXi below E P (fun _ _ => False) args s 1) 0 [(0, .ref (eAd E 0)), (1, .int x1), (2, .int x2), (3, .ref (eAd E 76))] [] μ := by
  have C := CC.1
  unfold tl_L_word_0 at h
  refine v_aload_n C 3 rfl rfl dL_word_0 ?_
  refine v_iconst (v := (0 : Int32)) C dL_word_1 (by decide) ?_
  refine v_aload_n C 0 rfl rfl dL_word_2 ?_
  refine v_iload_n C 1 rfl rfl dL_word_3 ?_
  refine v_iload_n C 2 rfl rfl dL_word_4 ?_
  obtain ⟨P1, Q1, hs, hx, h⟩ := h
  refine y_callVi (kc := 1) CC 0 [.int x1, .int x2] (by decide) rfl rfl rfl (ox_X8_word hl9 x1 x2 μ P1 Q1 hs) gw_L_59 rfl rfl dd_X8_word ⟨by decide, by decide⟩ rfl rfl (Nat.le_of_ble_eq_true rfl) ⟨by decide, by decide⟩ dL_word_5 (fun X0 μ0 hX0 => ?_) (fun r4 μ2 q3 => ?_)
  · obtain ⟨rfl, hh0⟩ := hx X0 μ0 hX0
    refine y_catch (name := "java/lang/IndexOutOfBoundsException") CC [] (0, 10, 13, 27) [] rfl (by simp) ⟨by decide, by decide⟩ (by decide) gk_L_27 kt_27 (fun q0 => ?_)
    refine v_astore C [(4, .ref q0), (0, .ref (eAd E 0)), (1, .int x1), (2, .int x2), (3, .ref (eAd E 76))] (by decide) rfl dL_word_13 ?_
    refine v_iconst (v := (1 : Int32)) C dL_word_15 (by decide) ?_
    exact x_iret C hr hh0 dL_word_16 (Nat.le_of_ble_eq_true rfl) (Nat.le_of_ble_eq_true rfl)
  · replace h := h r4 μ2 q3
    refine v_i2l C dL_word_8 ?_
    obtain ⟨b5, h⟩ := h
    refine v_last C 76 (by decide) rfl b5 dL_word_9 ?_
    refine v_nmM (fun μ6 e_μ6 => ?_)
    replace h := h μ6 e_μ6
    refine v_goto C 17 (by decide) dL_word_10 ?_
    refine v_iconst (v := (0 : Int32)) C dL_word_17 (by decide) ?_
    exact x_iret C hr h dL_word_18 (Nat.le_of_ble_eq_true rfl) (Nat.le_of_ble_eq_true rfl)
set_option maxRecDepth 10000 in
set_option maxHeartbeats 4000000 in
theorem ol_L_word {l : Launch} {E : EvT} (hl9 : l.stackTraces = false) (x1 : Int32) (x2 : Int32) (μ : MemT) (P : Int32 → MemT → Prop) (h : sl_L_word x1 x2 μ P) : MLi l E yL_word cL_word 5 (some .int) [(0, 10, 13, 27)] (rmX 7 172 1) [.ref (eAd E 0), .int x1, .int x2, .ref (eAd E 76)] μ P 1 := by
  refine ml_entry hl9 (by decide +kernel) (Nat.le_of_ble_eq_true rfl) (fun p e s m below meth c CC hr => ?_)
  exact ol_L_word_0 hl9 CC hr x1 x2 μ h
set_option maxRecDepth 10000 in
set_option maxHeartbeats 4000000 in
theorem ol_L_find_0 {p : Program} {l : Launch} {e : Env} {s : State} {m : MethodId} {args : Array Value} {below : List Frame} {meth : Method} {c : Code} {E : EvT} {P : Int32 → MemT → Prop} (hl9 : l.stackTraces = false) (CC : CH p l s m args meth c E cL_find 4 RL [(0, 9, 12, 13), (0, 9, 15, 15)]) (hr : meth.sig.returnType = (some .int)) (x1 : Int32) (μ : MemT) (h : tl_L_find_0 P x1 μ) : V p l e (rmX 7 170 1) s m args below meth c E 4 0 0 (QXi below E P (fun _ _ => False) args s 1) 0 [(0, .ref (eAd E 0)), (1, .int x1), (2, .ref (eAd E 76))] [] μ := by
  have C := CC.1
  unfold tl_L_find_0 at h
  refine v_aload_n C 2 rfl rfl dL_find_0 ?_
  refine v_iconst (v := (0 : Int32)) C dL_find_1 (by decide) ?_
  refine v_aload_n C 0 rfl rfl dL_find_2 ?_
  refine v_iload_n C 1 rfl rfl dL_find_3 ?_
  obtain ⟨P1, Q1, hs, hx, h⟩ := h
  refine y_callVi (kc := 1) CC 0 [.int x1] (by decide) rfl rfl rfl (ox_X8_find hl9 x1 μ P1 Q1 hs) gw_L_62 rfl rfl dd_X8_find ⟨by decide, by decide⟩ rfl rfl (Nat.le_of_ble_eq_true rfl) ⟨by decide, by decide⟩ dL_find_4 (fun X0 μ0 hX0 => ?_) (fun r4 μ2 q3 => ?_)
  · rcases hx X0 μ0 hX0 with ⟨rfl, hh0⟩ | ⟨rfl, hh0⟩
    · refine y_catch (name := "java/lang/IllegalArgumentException") CC [] (0, 9, 12, 13) [(0, 9, 15, 15)] rfl (by simp) ⟨by decide, by decide⟩ (by decide) gk_L_13 kt_13 (fun q0 => ?_)
      refine v_astore_n C [(3, .ref q0), (0, .ref (eAd E 0)), (1, .int x1), (2, .ref (eAd E 76))] rfl (by decide) rfl dL_find_12 ?_
      refine v_iconst (v := (1 : Int32)) C dL_find_13 (by decide) ?_
      exact x_iret C hr hh0 dL_find_14 (Nat.le_of_ble_eq_true rfl) (Nat.le_of_ble_eq_true rfl)
    · refine y_catch (name := "java/lang/UnsupportedOperationException") CC [(0, 9, 12, 13)] (0, 9, 15, 15) [] rfl (fun z hz => by rcases List.mem_singleton.mp hz with rfl; exact ⟨"java/lang/IllegalArgumentException", gk_L_13, by decide, by decide⟩) ⟨by decide, by decide⟩ (by decide) gk_L_15 kt_15 (fun q0 => ?_)
      refine v_astore_n C [(3, .ref q0), (0, .ref (eAd E 0)), (1, .int x1), (2, .ref (eAd E 76))] rfl (by decide) rfl dL_find_15 ?_
      refine v_iconst (v := (2 : Int32)) C dL_find_16 (by decide) ?_
      exact x_iret C hr hh0 dL_find_17 (Nat.le_of_ble_eq_true rfl) (Nat.le_of_ble_eq_true rfl)
  · replace h := h r4 μ2 q3
    refine v_i2l C dL_find_7 ?_
    obtain ⟨b5, h⟩ := h
    refine v_last C 76 (by decide) rfl b5 dL_find_8 ?_
    refine v_nmM (fun μ6 e_μ6 => ?_)
    replace h := h μ6 e_μ6
    refine v_goto C 18 (by decide) dL_find_9 ?_
    refine v_iconst (v := (0 : Int32)) C dL_find_18 (by decide) ?_
    exact x_iret C hr h dL_find_19 (Nat.le_of_ble_eq_true rfl) (Nat.le_of_ble_eq_true rfl)
set_option maxRecDepth 10000 in
set_option maxHeartbeats 4000000 in
theorem ol_L_find {l : Launch} {E : EvT} (hl9 : l.stackTraces = false) (x1 : Int32) (μ : MemT) (P : Int32 → MemT → Prop) (h : sl_L_find x1 μ P) : MLi l E yL_find cL_find 4 (some .int) [(0, 9, 12, 13), (0, 9, 15, 15)] (rmX 7 170 1) [.ref (eAd E 0), .int x1, .ref (eAd E 76)] μ P 1 := by
  refine ml_entry hl9 (by decide +kernel) (Nat.le_of_ble_eq_true rfl) (fun p e s m below meth c CC hr => ?_)
  exact ol_L_find_0 hl9 CC hr x1 μ h
set_option maxRecDepth 10000 in
set_option maxHeartbeats 4000000 in
theorem ol_L_found_0 {p : Program} {l : Launch} {e : Env} {s : State} {m : MethodId} {args : Array Value} {below : List Frame} {meth : Method} {c : Code} {E : EvT} {P : Int32 → MemT → Prop} (hl9 : l.stackTraces = false) (CC : CH p l s m args meth c E cL_found 4 RL [(0, 9, 12, 27)]) (hr : meth.sig.returnType = (some .int)) (x1 : Int32) (μ : MemT) (h : tl_L_found_0 P x1 μ) : V p l e (rmX 8 133 1) s m args below meth c E 4 0 0 (QXi below E P (fun _ _ => False) args s 1) 0 [(0, .ref (eAd E 0)), (1, .int x1), (2, .ref (eAd E 76))] [] μ := by
  have C := CC.1
  unfold tl_L_found_0 at h
  refine v_aload_n C 2 rfl rfl dL_found_0 ?_
  refine v_iconst (v := (0 : Int32)) C dL_found_1 (by decide) ?_
  refine v_aload_n C 0 rfl rfl dL_found_2 ?_
  refine v_iload_n C 1 rfl rfl dL_found_3 ?_
  obtain ⟨P1, Q1, hs, hx, h⟩ := h
  refine y_callVi (kc := 1) CC 0 [.int x1] (by decide) rfl rfl rfl (ox_X8_found hl9 x1 μ P1 Q1 hs) gw_L_65 rfl rfl dd_X8_found ⟨by decide, by decide⟩ rfl rfl (Nat.le_of_ble_eq_true rfl) ⟨by decide, by decide⟩ dL_found_4 (fun X0 μ0 hX0 => ?_) (fun r4 μ2 q3 => ?_)
  · obtain ⟨rfl, hh0⟩ := hx X0 μ0 hX0
    refine y_catch (name := "java/lang/IndexOutOfBoundsException") CC [] (0, 9, 12, 27) [] rfl (by simp) ⟨by decide, by decide⟩ (by decide) gk_L_27 kt_27 (fun q0 => ?_)
    refine v_astore_n C [(3, .ref q0), (0, .ref (eAd E 0)), (1, .int x1), (2, .ref (eAd E 76))] rfl (by decide) rfl dL_found_12 ?_
    refine v_iconst (v := (1 : Int32)) C dL_found_13 (by decide) ?_
    exact x_iret C hr hh0 dL_found_14 (Nat.le_of_ble_eq_true rfl) (Nat.le_of_ble_eq_true rfl)
  · replace h := h r4 μ2 q3
    refine v_i2l C dL_found_7 ?_
    obtain ⟨b5, h⟩ := h
    refine v_last C 76 (by decide) rfl b5 dL_found_8 ?_
    refine v_nmM (fun μ6 e_μ6 => ?_)
    replace h := h μ6 e_μ6
    refine v_goto C 15 (by decide) dL_found_9 ?_
    refine v_iconst (v := (0 : Int32)) C dL_found_15 (by decide) ?_
    exact x_iret C hr h dL_found_16 (Nat.le_of_ble_eq_true rfl) (Nat.le_of_ble_eq_true rfl)
set_option maxRecDepth 10000 in
set_option maxHeartbeats 4000000 in
theorem ol_L_found {l : Launch} {E : EvT} (hl9 : l.stackTraces = false) (x1 : Int32) (μ : MemT) (P : Int32 → MemT → Prop) (h : sl_L_found x1 μ P) : MLi l E yL_found cL_found 4 (some .int) [(0, 9, 12, 27)] (rmX 8 133 1) [.ref (eAd E 0), .int x1, .ref (eAd E 76)] μ P 1 := by
  refine ml_entry hl9 (by decide +kernel) (Nat.le_of_ble_eq_true rfl) (fun p e s m below meth c CC hr => ?_)
  exact ol_L_found_0 hl9 CC hr x1 μ h
