/-! The constructors. -/
theorem oi_2 : Cond.instanceMethod Lib.objectInit ∈ lgood := (mgT 28 (by decide +kernel) (by decide +kernel))
theorem oi_3 : Cond.code Lib.objectInit ⟨#[0xb1]⟩ 1 none ∈ lgood := (mgT 29 (by decide +kernel) (by decide +kernel))
theorem ac_I : Cond.arrayClass .int ∈ lgood := (mgT 81 (by decide +kernel) (by decide +kernel))
theorem ac_J : Cond.arrayClass .long ∈ lgood := (mgT 82 (by decide +kernel) (by decide +kernel))
theorem ac_Z : Cond.arrayClass .boolean ∈ lgood := (mgT 83 (by decide +kernel) (by decide +kernel))
theorem cfX8 : CF RX8 TX8 9 10 tyX8 := ⟨rfl, iwX8, tyX8_ok, nmX8⟩
def fzX8 : List Value := [.null, .null, .null, .null, .null, .null, .null, .null, .int 0]
theorem fzX8_ok : ∀ j, j < 9 → defaultValue (tyX8 j) = vp_V fzX8 j := by
  intro j hj
  match j, hj with
  | 0, _ => rfl
  | 1, _ => rfl
  | 2, _ => rfl
  | 3, _ => rfl
  | 4, _ => rfl
  | 5, _ => rfl
  | 6, _ => rfl
  | 7, _ => rfl
  | 8, _ => rfl
  | j + 9, hj => exact absurd hj (by omega)
theorem cfX7 : CF RX7 TX7 8 9 tyX7 := ⟨rfl, iwX7, tyX7_ok, nmX7⟩
def fzX7 : List Value := [.int 0, .null, .null, .null, .null, .null, .null, .null]
theorem fzX7_ok : ∀ j, j < 8 → defaultValue (tyX7 j) = vp_V fzX7 j := by
  intro j hj
  match j, hj with
  | 0, _ => rfl
  | 1, _ => rfl
  | 2, _ => rfl
  | 3, _ => rfl
  | 4, _ => rfl
  | 5, _ => rfl
  | 6, _ => rfl
  | 7, _ => rfl
  | j + 8, hj => exact absurd hj (by omega)
theorem cfX2 : CF RX2 TX2 2 4 tyX2 := ⟨rfl, iwX2, tyX2_ok, nmX2⟩
def fzX2 : List Value := [.null, .null]
theorem fzX2_ok : ∀ j, j < 2 → defaultValue (tyX2 j) = vp_V fzX2 j := by
  intro j hj
  match j, hj with
  | 0, _ => rfl
  | 1, _ => rfl
  | j + 2, hj => exact absurd hj (by omega)
theorem cfX3 : CF RX3 TX3 5 5 tyX3 := ⟨rfl, iwX3, tyX3_ok, nmX3⟩
def fzX3 : List Value := [.null, .null, .null, .null, .null]
theorem fzX3_ok : ∀ j, j < 5 → defaultValue (tyX3 j) = vp_V fzX3 j := by
  intro j hj
  match j, hj with
  | 0, _ => rfl
  | 1, _ => rfl
  | 2, _ => rfl
  | 3, _ => rfl
  | 4, _ => rfl
  | j + 5, hj => exact absurd hj (by omega)
theorem cfX1 : CF RX1 TX1 5 3 tyX1 := ⟨rfl, iwX1, tyX1_ok, nmX1⟩
def fzX1 : List Value := [.int 0, .int 0, .null, .null, .null]
theorem fzX1_ok : ∀ j, j < 5 → defaultValue (tyX1 j) = vp_V fzX1 j := by
  intro j hj
  match j, hj with
  | 0, _ => rfl
  | 1, _ => rfl
  | 2, _ => rfl
  | 3, _ => rfl
  | 4, _ => rfl
  | j + 5, hj => exact absurd hj (by omega)
theorem cfX6 : CF RX6 TX6 9 8 tyX6 := ⟨rfl, iwX6, tyX6_ok, nmX6⟩
def fzX6 : List Value := [.int 0, .null, .null, .null, .null, .null, .null, .null, .null]
theorem fzX6_ok : ∀ j, j < 9 → defaultValue (tyX6 j) = vp_V fzX6 j := by
  intro j hj
  match j, hj with
  | 0, _ => rfl
  | 1, _ => rfl
  | 2, _ => rfl
  | 3, _ => rfl
  | 4, _ => rfl
  | 5, _ => rfl
  | 6, _ => rfl
  | 7, _ => rfl
  | 8, _ => rfl
  | j + 9, hj => exact absurd hj (by omega)
theorem cfX0 : CF RX0 TX0 5 2 tyX0 := ⟨rfl, iwX0, tyX0_ok, nmX0⟩
def fzX0 : List Value := [.int 0, .null, .null, .null, .null]
theorem fzX0_ok : ∀ j, j < 5 → defaultValue (tyX0 j) = vp_V fzX0 j := by
  intro j hj
  match j, hj with
  | 0, _ => rfl
  | 1, _ => rfl
  | 2, _ => rfl
  | 3, _ => rfl
  | 4, _ => rfl
  | j + 5, hj => exact absurd hj (by omega)
theorem cfX4 : CF RX4 TX4 5 6 tyX4 := ⟨rfl, iwX4, tyX4_ok, nmX4⟩
def fzX4 : List Value := [.int 0, .null, .null, .null, .null]
theorem fzX4_ok : ∀ j, j < 5 → defaultValue (tyX4 j) = vp_V fzX4 j := by
  intro j hj
  match j, hj with
  | 0, _ => rfl
  | 1, _ => rfl
  | 2, _ => rfl
  | 3, _ => rfl
  | 4, _ => rfl
  | j + 5, hj => exact absurd hj (by omega)
theorem cfX5 : CF RX5 TX5 4 7 tyX5 := ⟨rfl, iwX5, tyX5_ok, nmX5⟩
def fzX5 : List Value := [.int 0, .int 0, .null, .null]
theorem fzX5_ok : ∀ j, j < 4 → defaultValue (tyX5 j) = vp_V fzX5 j := by
  intro j hj
  match j, hj with
  | 0, _ => rfl
  | 1, _ => rfl
  | 2, _ => rfl
  | 3, _ => rfl
  | j + 4, hj => exact absurd hj (by omega)
theorem cfX9 : CF RX9 TX9 41 11 tyX9 := ⟨rfl, iwX9, tyX9_ok, nmX9⟩
def fzX9 : List Value := [.int 0, .int 0, .null, .null, .null, .null, .null, .null, .null, .null, .null, .int 0, .null, .null, .null, .null, .null, .null, .null, .null, .null, .int 0, .null, .null, .null, .null, .null, .null, .null, .null, .int 0, .long 0, .null, .int 0, .null, .null, .int 0, .null, .int 0, .null, .int 0]
theorem fzX9_ok : ∀ j, j < 41 → defaultValue (tyX9 j) = vp_V fzX9 j := by
  intro j hj
  match j, hj with
  | 0, _ => rfl
  | 1, _ => rfl
  | 2, _ => rfl
  | 3, _ => rfl
  | 4, _ => rfl
  | 5, _ => rfl
  | 6, _ => rfl
  | 7, _ => rfl
  | 8, _ => rfl
  | 9, _ => rfl
  | 10, _ => rfl
  | 11, _ => rfl
  | 12, _ => rfl
  | 13, _ => rfl
  | 14, _ => rfl
  | 15, _ => rfl
  | 16, _ => rfl
  | 17, _ => rfl
  | 18, _ => rfl
  | 19, _ => rfl
  | 20, _ => rfl
  | 21, _ => rfl
  | 22, _ => rfl
  | 23, _ => rfl
  | 24, _ => rfl
  | 25, _ => rfl
  | 26, _ => rfl
  | 27, _ => rfl
  | 28, _ => rfl
  | 29, _ => rfl
  | 30, _ => rfl
  | 31, _ => rfl
  | 32, _ => rfl
  | 33, _ => rfl
  | 34, _ => rfl
  | 35, _ => rfl
  | 36, _ => rfl
  | 37, _ => rfl
  | 38, _ => rfl
  | 39, _ => rfl
  | 40, _ => rfl
  | j + 41, hj => exact absurd hj (by omega)
def w_X7 (T : TyT) (h0 : Nat) (u : Nat → Nat) : va_W := [(h0, .inr (9, [.int 0, .ref (u 10), .ref (u 11), .ref (u 12), .ref (u 13), .ref (u 14), .ref (u 15), .ref (u 16)])), (u 10, zI T 200), (u 11, zJ T 200), (u 12, zJ T 200), (u 13, zJ T 200), (u 14, zI T 200), (u 15, zZ T 200), (u 16, zI T 200)]
def rm_X7 : Room := { frames := 1, cells := 7, slots := 1400, locals := 12 }
set_option maxRecDepth 20000 in
set_option maxHeartbeats 4000000 in
theorem mn_X7 (l : Launch) (D : va_G) (T : TyT) : MN l D T yX7_init cX7_init rm_X7 9 fzX7 (w_X7 T) := by
  refine mn_entry (by decide) rfl ?_
  intro p e s m below meth c h0 C hr hlocks hin hN8
  have hz : fzX7.length = 8 := rfl
  refine n_obj C rfl (mgT 35 (by decide +kernel) (by decide +kernel)) oi_2 oi_3 (Nat.le_of_ble_eq_true rfl) (Nat.le_of_ble_eq_true rfl) dX7_init_0 dX7_init_1 ?_
  refine n_aload C 0 rfl rfl dX7_init_4 ?_
  refine n_iconst (v := 0) C dX7_init_5 (by decide) ?_
  refine n_put C hin cfX7 0 .int (by decide) (mgT 36 (by decide +kernel) (by decide +kernel)) rfl (by decide +kernel) rfl rfl hz dX7_init_6 [.int 0, .null, .null, .null, .null, .null, .null, .null] [] rfl rfl (fun hz => ?_)
  refine n_aload C 0 rfl rfl dX7_init_9 ?_
  refine n_sipush (v := 200) C dX7_init_10 (by decide) ?_
  refine n_newI C 200 1 200 rfl rfl ac_I (by decide) (by decide) (by decide) (Nat.le_of_ble_eq_true rfl) (Nat.le_of_ble_eq_true rfl) dX7_init_13 (fun q10 => ?_)
  refine n_put C hin cfX7 1 (.array .int) (by decide) (mgT 41 (by decide +kernel) (by decide +kernel)) rfl (by decide +kernel) rfl rfl hz dX7_init_15 [.int 0, .ref q10, .null, .null, .null, .null, .null, .null] [(q10, zI T 200)] rfl rfl (fun hz => ?_)
  refine n_aload C 0 rfl rfl dX7_init_18 ?_
  refine n_sipush (v := 200) C dX7_init_19 (by decide) ?_
  refine n_newJ C 200 2 400 rfl rfl ac_J (by decide) (by decide) (by decide) (Nat.le_of_ble_eq_true rfl) (Nat.le_of_ble_eq_true rfl) dX7_init_22 (fun q11 => ?_)
  refine n_put C hin cfX7 2 (.array .long) (by decide) (mgT 43 (by decide +kernel) (by decide +kernel)) rfl (by decide +kernel) rfl rfl hz dX7_init_24 [.int 0, .ref q10, .ref q11, .null, .null, .null, .null, .null] [(q10, zI T 200), (q11, zJ T 200)] rfl rfl (fun hz => ?_)
  refine n_aload C 0 rfl rfl dX7_init_27 ?_
  refine n_sipush (v := 200) C dX7_init_28 (by decide) ?_
  refine n_newJ C 200 3 600 rfl rfl ac_J (by decide) (by decide) (by decide) (Nat.le_of_ble_eq_true rfl) (Nat.le_of_ble_eq_true rfl) dX7_init_31 (fun q12 => ?_)
  refine n_put C hin cfX7 3 (.array .long) (by decide) (mgT 46 (by decide +kernel) (by decide +kernel)) rfl (by decide +kernel) rfl rfl hz dX7_init_33 [.int 0, .ref q10, .ref q11, .ref q12, .null, .null, .null, .null] [(q10, zI T 200), (q11, zJ T 200), (q12, zJ T 200)] rfl rfl (fun hz => ?_)
  refine n_aload C 0 rfl rfl dX7_init_36 ?_
  refine n_sipush (v := 200) C dX7_init_37 (by decide) ?_
  refine n_newJ C 200 4 800 rfl rfl ac_J (by decide) (by decide) (by decide) (Nat.le_of_ble_eq_true rfl) (Nat.le_of_ble_eq_true rfl) dX7_init_40 (fun q13 => ?_)
  refine n_put C hin cfX7 4 (.array .long) (by decide) (mgT 49 (by decide +kernel) (by decide +kernel)) rfl (by decide +kernel) rfl rfl hz dX7_init_42 [.int 0, .ref q10, .ref q11, .ref q12, .ref q13, .null, .null, .null] [(q10, zI T 200), (q11, zJ T 200), (q12, zJ T 200), (q13, zJ T 200)] rfl rfl (fun hz => ?_)
  refine n_aload C 0 rfl rfl dX7_init_45 ?_
  refine n_sipush (v := 200) C dX7_init_46 (by decide) ?_
  refine n_newI C 200 5 1000 rfl rfl ac_I (by decide) (by decide) (by decide) (Nat.le_of_ble_eq_true rfl) (Nat.le_of_ble_eq_true rfl) dX7_init_49 (fun q14 => ?_)
  refine n_put C hin cfX7 5 (.array .int) (by decide) (mgT 52 (by decide +kernel) (by decide +kernel)) rfl (by decide +kernel) rfl rfl hz dX7_init_51 [.int 0, .ref q10, .ref q11, .ref q12, .ref q13, .ref q14, .null, .null] [(q10, zI T 200), (q11, zJ T 200), (q12, zJ T 200), (q13, zJ T 200), (q14, zI T 200)] rfl rfl (fun hz => ?_)
  refine n_aload C 0 rfl rfl dX7_init_54 ?_
  refine n_sipush (v := 200) C dX7_init_55 (by decide) ?_
  refine n_newZ C 200 6 1200 rfl rfl ac_Z (by decide) (by decide) (by decide) (Nat.le_of_ble_eq_true rfl) (Nat.le_of_ble_eq_true rfl) dX7_init_58 (fun q15 => ?_)
  refine n_put C hin cfX7 6 (.array .boolean) (by decide) (mgT 56 (by decide +kernel) (by decide +kernel)) rfl (by decide +kernel) rfl rfl hz dX7_init_60 [.int 0, .ref q10, .ref q11, .ref q12, .ref q13, .ref q14, .ref q15, .null] [(q10, zI T 200), (q11, zJ T 200), (q12, zJ T 200), (q13, zJ T 200), (q14, zI T 200), (q15, zZ T 200)] rfl rfl (fun hz => ?_)
  refine n_aload C 0 rfl rfl dX7_init_63 ?_
  refine n_sipush (v := 200) C dX7_init_64 (by decide) ?_
  refine n_newI C 200 7 1400 rfl rfl ac_I (by decide) (by decide) (by decide) (Nat.le_of_ble_eq_true rfl) (Nat.le_of_ble_eq_true rfl) dX7_init_67 (fun q16 => ?_)
  refine n_put C hin cfX7 7 (.array .int) (by decide) (mgT 61 (by decide +kernel) (by decide +kernel)) rfl (by decide +kernel) rfl rfl hz dX7_init_69 [.int 0, .ref q10, .ref q11, .ref q12, .ref q13, .ref q14, .ref q15, .ref q16] [(q10, zI T 200), (q11, zJ T 200), (q12, zJ T 200), (q13, zJ T 200), (q14, zI T 200), (q15, zZ T 200), (q16, zI T 200)] rfl rfl (fun hz => ?_)
  exact n_ret C hr hlocks (fun k => ([q10, q11, q12, q13, q14, q15, q16] : List Nat).getD (k - 10) 0) rfl (Nat.le_of_ble_eq_true rfl) (Nat.le_of_ble_eq_true rfl) dX7_init_72
def w_X2 (T : TyT) (h0 : Nat) (u : Nat → Nat) : va_W := [(h0, .inr (4, [.ref (u 17), .ref (u 18)])), (u 17, zI T 1024), (u 18, zI T 1024)]
def rm_X2 : Room := { frames := 1, cells := 2, slots := 2048, locals := 12 }
set_option maxRecDepth 20000 in
set_option maxHeartbeats 4000000 in
theorem mn_X2 (l : Launch) (D : va_G) (T : TyT) : MN l D T yX2_init cX2_init rm_X2 4 fzX2 (w_X2 T) := by
  refine mn_entry (by decide) rfl ?_
  intro p e s m below meth c h0 C hr hlocks hin hN8
  have hz : fzX2.length = 2 := rfl
  refine n_obj C rfl (mgT 89 (by decide +kernel) (by decide +kernel)) oi_2 oi_3 (Nat.le_of_ble_eq_true rfl) (Nat.le_of_ble_eq_true rfl) dX2_init_0 dX2_init_1 ?_
  refine n_aload C 0 rfl rfl dX2_init_4 ?_
  refine n_sipush (v := 1024) C dX2_init_5 (by decide) ?_
  refine n_newI C 1024 1 1024 rfl rfl ac_I (by decide) (by decide) (by decide) (Nat.le_of_ble_eq_true rfl) (Nat.le_of_ble_eq_true rfl) dX2_init_8 (fun q17 => ?_)
  refine n_put C hin cfX2 0 (.array .int) (by decide) (mgT 90 (by decide +kernel) (by decide +kernel)) rfl (by decide +kernel) rfl rfl hz dX2_init_10 [.ref q17, .null] [(q17, zI T 1024)] rfl rfl (fun hz => ?_)
  refine n_aload C 0 rfl rfl dX2_init_13 ?_
  refine n_sipush (v := 1024) C dX2_init_14 (by decide) ?_
  refine n_newI C 1024 2 2048 rfl rfl ac_I (by decide) (by decide) (by decide) (Nat.le_of_ble_eq_true rfl) (Nat.le_of_ble_eq_true rfl) dX2_init_17 (fun q18 => ?_)
  refine n_put C hin cfX2 1 (.array .int) (by decide) (mgT 92 (by decide +kernel) (by decide +kernel)) rfl (by decide +kernel) rfl rfl hz dX2_init_19 [.ref q17, .ref q18] [(q17, zI T 1024), (q18, zI T 1024)] rfl rfl (fun hz => ?_)
  exact n_ret C hr hlocks (fun k => ([q17, q18] : List Nat).getD (k - 17) 0) rfl (Nat.le_of_ble_eq_true rfl) (Nat.le_of_ble_eq_true rfl) dX2_init_22
def w_X3 (T : TyT) (h0 : Nat) (u : Nat → Nat) : va_W := [(h0, .inr (5, [.ref (u 19), .ref (u 20), .ref (u 21), .ref (u 22), .ref (u 23)])), (u 19, zJ T 200), (u 20, zJ T 200), (u 21, zI T 200), (u 22, zI T 200), (u 23, zI T 200)]
def rm_X3 : Room := { frames := 1, cells := 5, slots := 1000, locals := 12 }
set_option maxRecDepth 20000 in
set_option maxHeartbeats 4000000 in
theorem mn_X3 (l : Launch) (D : va_G) (T : TyT) : MN l D T yX3_init cX3_init rm_X3 5 fzX3 (w_X3 T) := by
  refine mn_entry (by decide) rfl ?_
  intro p e s m below meth c h0 C hr hlocks hin hN8
  have hz : fzX3.length = 5 := rfl
  refine n_obj C rfl (mgT 104 (by decide +kernel) (by decide +kernel)) oi_2 oi_3 (Nat.le_of_ble_eq_true rfl) (Nat.le_of_ble_eq_true rfl) dX3_init_0 dX3_init_1 ?_
  refine n_aload C 0 rfl rfl dX3_init_4 ?_
  refine n_sipush (v := 200) C dX3_init_5 (by decide) ?_
  refine n_newJ C 200 1 200 rfl rfl ac_J (by decide) (by decide) (by decide) (Nat.le_of_ble_eq_true rfl) (Nat.le_of_ble_eq_true rfl) dX3_init_8 (fun q19 => ?_)
  refine n_put C hin cfX3 0 (.array .long) (by decide) (mgT 105 (by decide +kernel) (by decide +kernel)) rfl (by decide +kernel) rfl rfl hz dX3_init_10 [.ref q19, .null, .null, .null, .null] [(q19, zJ T 200)] rfl rfl (fun hz => ?_)
  refine n_aload C 0 rfl rfl dX3_init_13 ?_
  refine n_sipush (v := 200) C dX3_init_14 (by decide) ?_
  refine n_newJ C 200 2 400 rfl rfl ac_J (by decide) (by decide) (by decide) (Nat.le_of_ble_eq_true rfl) (Nat.le_of_ble_eq_true rfl) dX3_init_17 (fun q20 => ?_)
  refine n_put C hin cfX3 1 (.array .long) (by decide) (mgT 108 (by decide +kernel) (by decide +kernel)) rfl (by decide +kernel) rfl rfl hz dX3_init_19 [.ref q19, .ref q20, .null, .null, .null] [(q19, zJ T 200), (q20, zJ T 200)] rfl rfl (fun hz => ?_)
  refine n_aload C 0 rfl rfl dX3_init_22 ?_
  refine n_sipush (v := 200) C dX3_init_23 (by decide) ?_
  refine n_newI C 200 3 600 rfl rfl ac_I (by decide) (by decide) (by decide) (Nat.le_of_ble_eq_true rfl) (Nat.le_of_ble_eq_true rfl) dX3_init_26 (fun q21 => ?_)
  refine n_put C hin cfX3 2 (.array .int) (by decide) (mgT 111 (by decide +kernel) (by decide +kernel)) rfl (by decide +kernel) rfl rfl hz dX3_init_28 [.ref q19, .ref q20, .ref q21, .null, .null] [(q19, zJ T 200), (q20, zJ T 200), (q21, zI T 200)] rfl rfl (fun hz => ?_)
  refine n_aload C 0 rfl rfl dX3_init_31 ?_
  refine n_sipush (v := 200) C dX3_init_32 (by decide) ?_
  refine n_newI C 200 4 800 rfl rfl ac_I (by decide) (by decide) (by decide) (Nat.le_of_ble_eq_true rfl) (Nat.le_of_ble_eq_true rfl) dX3_init_35 (fun q22 => ?_)
  refine n_put C hin cfX3 3 (.array .int) (by decide) (mgT 113 (by decide +kernel) (by decide +kernel)) rfl (by decide +kernel) rfl rfl hz dX3_init_37 [.ref q19, .ref q20, .ref q21, .ref q22, .null] [(q19, zJ T 200), (q20, zJ T 200), (q21, zI T 200), (q22, zI T 200)] rfl rfl (fun hz => ?_)
  refine n_aload C 0 rfl rfl dX3_init_40 ?_
  refine n_sipush (v := 200) C dX3_init_41 (by decide) ?_
  refine n_newI C 200 5 1000 rfl rfl ac_I (by decide) (by decide) (by decide) (Nat.le_of_ble_eq_true rfl) (Nat.le_of_ble_eq_true rfl) dX3_init_44 (fun q23 => ?_)
  refine n_put C hin cfX3 4 (.array .int) (by decide) (mgT 115 (by decide +kernel) (by decide +kernel)) rfl (by decide +kernel) rfl rfl hz dX3_init_46 [.ref q19, .ref q20, .ref q21, .ref q22, .ref q23] [(q19, zJ T 200), (q20, zJ T 200), (q21, zI T 200), (q22, zI T 200), (q23, zI T 200)] rfl rfl (fun hz => ?_)
  exact n_ret C hr hlocks (fun k => ([q19, q20, q21, q22, q23] : List Nat).getD (k - 19) 0) rfl (Nat.le_of_ble_eq_true rfl) (Nat.le_of_ble_eq_true rfl) dX3_init_49
def w_X1 (T : TyT) (h0 : Nat) (u : Nat → Nat) : va_W := [(h0, .inr (3, [.int 0, .int 0, .ref (u 24), .ref (u 25), .ref (u 26)])), (u 24, zI T 200), (u 25, zI T 200), (u 26, zI T 200)]
def rm_X1 : Room := { frames := 1, cells := 3, slots := 600, locals := 12 }
set_option maxRecDepth 20000 in
set_option maxHeartbeats 4000000 in
theorem mn_X1 (l : Launch) (D : va_G) (T : TyT) : MN l D T yX1_init cX1_init rm_X1 3 fzX1 (w_X1 T) := by
  refine mn_entry (by decide) rfl ?_
  intro p e s m below meth c h0 C hr hlocks hin hN8
  have hz : fzX1.length = 5 := rfl
  refine n_obj C rfl (mgT 134 (by decide +kernel) (by decide +kernel)) oi_2 oi_3 (Nat.le_of_ble_eq_true rfl) (Nat.le_of_ble_eq_true rfl) dX1_init_0 dX1_init_1 ?_
  refine n_aload C 0 rfl rfl dX1_init_4 ?_
  refine n_iconst (v := 0) C dX1_init_5 (by decide) ?_
  refine n_put C hin cfX1 0 .int (by decide) (mgT 135 (by decide +kernel) (by decide +kernel)) rfl (by decide +kernel) rfl rfl hz dX1_init_6 [.int 0, .int 0, .null, .null, .null] [] rfl rfl (fun hz => ?_)
  refine n_aload C 0 rfl rfl dX1_init_9 ?_
  refine n_iconst (v := 0) C dX1_init_10 (by decide) ?_
  refine n_put C hin cfX1 1 .int (by decide) (mgT 136 (by decide +kernel) (by decide +kernel)) rfl (by decide +kernel) rfl rfl hz dX1_init_11 [.int 0, .int 0, .null, .null, .null] [] rfl rfl (fun hz => ?_)
  refine n_aload C 0 rfl rfl dX1_init_14 ?_
  refine n_sipush (v := 200) C dX1_init_15 (by decide) ?_
  refine n_newI C 200 1 200 rfl rfl ac_I (by decide) (by decide) (by decide) (Nat.le_of_ble_eq_true rfl) (Nat.le_of_ble_eq_true rfl) dX1_init_18 (fun q24 => ?_)
  refine n_put C hin cfX1 2 (.array .int) (by decide) (mgT 139 (by decide +kernel) (by decide +kernel)) rfl (by decide +kernel) rfl rfl hz dX1_init_20 [.int 0, .int 0, .ref q24, .null, .null] [(q24, zI T 200)] rfl rfl (fun hz => ?_)
  refine n_aload C 0 rfl rfl dX1_init_23 ?_
  refine n_sipush (v := 200) C dX1_init_24 (by decide) ?_
  refine n_newI C 200 2 400 rfl rfl ac_I (by decide) (by decide) (by decide) (Nat.le_of_ble_eq_true rfl) (Nat.le_of_ble_eq_true rfl) dX1_init_27 (fun q25 => ?_)
  refine n_put C hin cfX1 3 (.array .int) (by decide) (mgT 142 (by decide +kernel) (by decide +kernel)) rfl (by decide +kernel) rfl rfl hz dX1_init_29 [.int 0, .int 0, .ref q24, .ref q25, .null] [(q24, zI T 200), (q25, zI T 200)] rfl rfl (fun hz => ?_)
  refine n_aload C 0 rfl rfl dX1_init_32 ?_
  refine n_sipush (v := 200) C dX1_init_33 (by decide) ?_
  refine n_newI C 200 3 600 rfl rfl ac_I (by decide) (by decide) (by decide) (Nat.le_of_ble_eq_true rfl) (Nat.le_of_ble_eq_true rfl) dX1_init_36 (fun q26 => ?_)
  refine n_put C hin cfX1 4 (.array .int) (by decide) (mgT 144 (by decide +kernel) (by decide +kernel)) rfl (by decide +kernel) rfl rfl hz dX1_init_38 [.int 0, .int 0, .ref q24, .ref q25, .ref q26] [(q24, zI T 200), (q25, zI T 200), (q26, zI T 200)] rfl rfl (fun hz => ?_)
  exact n_ret C hr hlocks (fun k => ([q24, q25, q26] : List Nat).getD (k - 24) 0) rfl (Nat.le_of_ble_eq_true rfl) (Nat.le_of_ble_eq_true rfl) dX1_init_41
def w_X6 (T : TyT) (h0 : Nat) (u : Nat → Nat) : va_W := [(h0, .inr (8, [.int 0, .ref (u 27), .ref (u 28), .ref (u 29), .ref (u 30), .ref (u 31), .ref (u 32), .ref (u 33), .ref (u 34)])), (u 27, zI T 200), (u 28, zZ T 200), (u 29, zZ T 200), (u 30, zJ T 200), (u 31, zJ T 200), (u 32, zJ T 200), (u 33, zJ T 200), (u 34, zI T 200)]
def rm_X6 : Room := { frames := 1, cells := 8, slots := 1600, locals := 12 }
set_option maxRecDepth 20000 in
set_option maxHeartbeats 4000000 in
theorem mn_X6 (l : Launch) (D : va_G) (T : TyT) : MN l D T yX6_init cX6_init rm_X6 8 fzX6 (w_X6 T) := by
  refine mn_entry (by decide) rfl ?_
  intro p e s m below meth c h0 C hr hlocks hin hN8
  have hz : fzX6.length = 9 := rfl
  refine n_obj C rfl (mgT 163 (by decide +kernel) (by decide +kernel)) oi_2 oi_3 (Nat.le_of_ble_eq_true rfl) (Nat.le_of_ble_eq_true rfl) dX6_init_0 dX6_init_1 ?_
  refine n_aload C 0 rfl rfl dX6_init_4 ?_
  refine n_iconst (v := 0) C dX6_init_5 (by decide) ?_
  refine n_put C hin cfX6 0 .int (by decide) (mgT 164 (by decide +kernel) (by decide +kernel)) rfl (by decide +kernel) rfl rfl hz dX6_init_6 [.int 0, .null, .null, .null, .null, .null, .null, .null, .null] [] rfl rfl (fun hz => ?_)
  refine n_aload C 0 rfl rfl dX6_init_9 ?_
  refine n_sipush (v := 200) C dX6_init_10 (by decide) ?_
  refine n_newI C 200 1 200 rfl rfl ac_I (by decide) (by decide) (by decide) (Nat.le_of_ble_eq_true rfl) (Nat.le_of_ble_eq_true rfl) dX6_init_13 (fun q27 => ?_)
  refine n_put C hin cfX6 1 (.array .int) (by decide) (mgT 166 (by decide +kernel) (by decide +kernel)) rfl (by decide +kernel) rfl rfl hz dX6_init_15 [.int 0, .ref q27, .null, .null, .null, .null, .null, .null, .null] [(q27, zI T 200)] rfl rfl (fun hz => ?_)
  refine n_aload C 0 rfl rfl dX6_init_18 ?_
  refine n_sipush (v := 200) C dX6_init_19 (by decide) ?_
  refine n_newZ C 200 2 400 rfl rfl ac_Z (by decide) (by decide) (by decide) (Nat.le_of_ble_eq_true rfl) (Nat.le_of_ble_eq_true rfl) dX6_init_22 (fun q28 => ?_)
  refine n_put C hin cfX6 2 (.array .boolean) (by decide) (mgT 169 (by decide +kernel) (by decide +kernel)) rfl (by decide +kernel) rfl rfl hz dX6_init_24 [.int 0, .ref q27, .ref q28, .null, .null, .null, .null, .null, .null] [(q27, zI T 200), (q28, zZ T 200)] rfl rfl (fun hz => ?_)
  refine n_aload C 0 rfl rfl dX6_init_27 ?_
  refine n_sipush (v := 200) C dX6_init_28 (by decide) ?_
  refine n_newZ C 200 3 600 rfl rfl ac_Z (by decide) (by decide) (by decide) (Nat.le_of_ble_eq_true rfl) (Nat.le_of_ble_eq_true rfl) dX6_init_31 (fun q29 => ?_)
  refine n_put C hin cfX6 3 (.array .boolean) (by decide) (mgT 172 (by decide +kernel) (by decide +kernel)) rfl (by decide +kernel) rfl rfl hz dX6_init_33 [.int 0, .ref q27, .ref q28, .ref q29, .null, .null, .null, .null, .null] [(q27, zI T 200), (q28, zZ T 200), (q29, zZ T 200)] rfl rfl (fun hz => ?_)
  refine n_aload C 0 rfl rfl dX6_init_36 ?_
  refine n_sipush (v := 200) C dX6_init_37 (by decide) ?_
  refine n_newJ C 200 4 800 rfl rfl ac_J (by decide) (by decide) (by decide) (Nat.le_of_ble_eq_true rfl) (Nat.le_of_ble_eq_true rfl) dX6_init_40 (fun q30 => ?_)
  refine n_put C hin cfX6 4 (.array .long) (by decide) (mgT 174 (by decide +kernel) (by decide +kernel)) rfl (by decide +kernel) rfl rfl hz dX6_init_42 [.int 0, .ref q27, .ref q28, .ref q29, .ref q30, .null, .null, .null, .null] [(q27, zI T 200), (q28, zZ T 200), (q29, zZ T 200), (q30, zJ T 200)] rfl rfl (fun hz => ?_)
  refine n_aload C 0 rfl rfl dX6_init_45 ?_
  refine n_sipush (v := 200) C dX6_init_46 (by decide) ?_
  refine n_newJ C 200 5 1000 rfl rfl ac_J (by decide) (by decide) (by decide) (Nat.le_of_ble_eq_true rfl) (Nat.le_of_ble_eq_true rfl) dX6_init_49 (fun q31 => ?_)
  refine n_put C hin cfX6 5 (.array .long) (by decide) (mgT 176 (by decide +kernel) (by decide +kernel)) rfl (by decide +kernel) rfl rfl hz dX6_init_51 [.int 0, .ref q27, .ref q28, .ref q29, .ref q30, .ref q31, .null, .null, .null] [(q27, zI T 200), (q28, zZ T 200), (q29, zZ T 200), (q30, zJ T 200), (q31, zJ T 200)] rfl rfl (fun hz => ?_)
  refine n_aload C 0 rfl rfl dX6_init_54 ?_
  refine n_sipush (v := 200) C dX6_init_55 (by decide) ?_
  refine n_newJ C 200 6 1200 rfl rfl ac_J (by decide) (by decide) (by decide) (Nat.le_of_ble_eq_true rfl) (Nat.le_of_ble_eq_true rfl) dX6_init_58 (fun q32 => ?_)
  refine n_put C hin cfX6 6 (.array .long) (by decide) (mgT 178 (by decide +kernel) (by decide +kernel)) rfl (by decide +kernel) rfl rfl hz dX6_init_60 [.int 0, .ref q27, .ref q28, .ref q29, .ref q30, .ref q31, .ref q32, .null, .null] [(q27, zI T 200), (q28, zZ T 200), (q29, zZ T 200), (q30, zJ T 200), (q31, zJ T 200), (q32, zJ T 200)] rfl rfl (fun hz => ?_)
  refine n_aload C 0 rfl rfl dX6_init_63 ?_
  refine n_sipush (v := 200) C dX6_init_64 (by decide) ?_
  refine n_newJ C 200 7 1400 rfl rfl ac_J (by decide) (by decide) (by decide) (Nat.le_of_ble_eq_true rfl) (Nat.le_of_ble_eq_true rfl) dX6_init_67 (fun q33 => ?_)
  refine n_put C hin cfX6 7 (.array .long) (by decide) (mgT 180 (by decide +kernel) (by decide +kernel)) rfl (by decide +kernel) rfl rfl hz dX6_init_69 [.int 0, .ref q27, .ref q28, .ref q29, .ref q30, .ref q31, .ref q32, .ref q33, .null] [(q27, zI T 200), (q28, zZ T 200), (q29, zZ T 200), (q30, zJ T 200), (q31, zJ T 200), (q32, zJ T 200), (q33, zJ T 200)] rfl rfl (fun hz => ?_)
  refine n_aload C 0 rfl rfl dX6_init_72 ?_
  refine n_sipush (v := 200) C dX6_init_73 (by decide) ?_
  refine n_newI C 200 8 1600 rfl rfl ac_I (by decide) (by decide) (by decide) (Nat.le_of_ble_eq_true rfl) (Nat.le_of_ble_eq_true rfl) dX6_init_76 (fun q34 => ?_)
  refine n_put C hin cfX6 8 (.array .int) (by decide) (mgT 182 (by decide +kernel) (by decide +kernel)) rfl (by decide +kernel) rfl rfl hz dX6_init_78 [.int 0, .ref q27, .ref q28, .ref q29, .ref q30, .ref q31, .ref q32, .ref q33, .ref q34] [(q27, zI T 200), (q28, zZ T 200), (q29, zZ T 200), (q30, zJ T 200), (q31, zJ T 200), (q32, zJ T 200), (q33, zJ T 200), (q34, zI T 200)] rfl rfl (fun hz => ?_)
  exact n_ret C hr hlocks (fun k => ([q27, q28, q29, q30, q31, q32, q33, q34] : List Nat).getD (k - 27) 0) rfl (Nat.le_of_ble_eq_true rfl) (Nat.le_of_ble_eq_true rfl) dX6_init_81
def w_X0 (T : TyT) (h0 : Nat) (u : Nat → Nat) : va_W := [(h0, .inr (2, [.int 0, .ref (u 35), .ref (u 36), .ref (u 37), .ref (u 38)])), (u 35, zI T 200), (u 36, zI T 200), (u 37, zI T 200), (u 38, zI T 200)]
def rm_X0 : Room := { frames := 1, cells := 4, slots := 800, locals := 12 }
set_option maxRecDepth 20000 in
set_option maxHeartbeats 4000000 in
theorem mn_X0 (l : Launch) (D : va_G) (T : TyT) : MN l D T yX0_init cX0_init rm_X0 2 fzX0 (w_X0 T) := by
  refine mn_entry (by decide) rfl ?_
  intro p e s m below meth c h0 C hr hlocks hin hN8
  have hz : fzX0.length = 5 := rfl
  refine n_obj C rfl (mgT 208 (by decide +kernel) (by decide +kernel)) oi_2 oi_3 (Nat.le_of_ble_eq_true rfl) (Nat.le_of_ble_eq_true rfl) dX0_init_0 dX0_init_1 ?_
  refine n_aload C 0 rfl rfl dX0_init_4 ?_
  refine n_iconst (v := 0) C dX0_init_5 (by decide) ?_
  refine n_put C hin cfX0 0 .int (by decide) (mgT 209 (by decide +kernel) (by decide +kernel)) rfl (by decide +kernel) rfl rfl hz dX0_init_6 [.int 0, .null, .null, .null, .null] [] rfl rfl (fun hz => ?_)
  refine n_aload C 0 rfl rfl dX0_init_9 ?_
  refine n_sipush (v := 200) C dX0_init_10 (by decide) ?_
  refine n_newI C 200 1 200 rfl rfl ac_I (by decide) (by decide) (by decide) (Nat.le_of_ble_eq_true rfl) (Nat.le_of_ble_eq_true rfl) dX0_init_13 (fun q35 => ?_)
  refine n_put C hin cfX0 1 (.array .int) (by decide) (mgT 210 (by decide +kernel) (by decide +kernel)) rfl (by decide +kernel) rfl rfl hz dX0_init_15 [.int 0, .ref q35, .null, .null, .null] [(q35, zI T 200)] rfl rfl (fun hz => ?_)
  refine n_aload C 0 rfl rfl dX0_init_18 ?_
  refine n_sipush (v := 200) C dX0_init_19 (by decide) ?_
  refine n_newI C 200 2 400 rfl rfl ac_I (by decide) (by decide) (by decide) (Nat.le_of_ble_eq_true rfl) (Nat.le_of_ble_eq_true rfl) dX0_init_22 (fun q36 => ?_)
  refine n_put C hin cfX0 2 (.array .int) (by decide) (mgT 211 (by decide +kernel) (by decide +kernel)) rfl (by decide +kernel) rfl rfl hz dX0_init_24 [.int 0, .ref q35, .ref q36, .null, .null] [(q35, zI T 200), (q36, zI T 200)] rfl rfl (fun hz => ?_)
  refine n_aload C 0 rfl rfl dX0_init_27 ?_
  refine n_sipush (v := 200) C dX0_init_28 (by decide) ?_
  refine n_newI C 200 3 600 rfl rfl ac_I (by decide) (by decide) (by decide) (Nat.le_of_ble_eq_true rfl) (Nat.le_of_ble_eq_true rfl) dX0_init_31 (fun q37 => ?_)
  refine n_put C hin cfX0 3 (.array .int) (by decide) (mgT 212 (by decide +kernel) (by decide +kernel)) rfl (by decide +kernel) rfl rfl hz dX0_init_33 [.int 0, .ref q35, .ref q36, .ref q37, .null] [(q35, zI T 200), (q36, zI T 200), (q37, zI T 200)] rfl rfl (fun hz => ?_)
  refine n_aload C 0 rfl rfl dX0_init_36 ?_
  refine n_sipush (v := 200) C dX0_init_37 (by decide) ?_
  refine n_newI C 200 4 800 rfl rfl ac_I (by decide) (by decide) (by decide) (Nat.le_of_ble_eq_true rfl) (Nat.le_of_ble_eq_true rfl) dX0_init_40 (fun q38 => ?_)
  refine n_put C hin cfX0 4 (.array .int) (by decide) (mgT 213 (by decide +kernel) (by decide +kernel)) rfl (by decide +kernel) rfl rfl hz dX0_init_42 [.int 0, .ref q35, .ref q36, .ref q37, .ref q38] [(q35, zI T 200), (q36, zI T 200), (q37, zI T 200), (q38, zI T 200)] rfl rfl (fun hz => ?_)
  exact n_ret C hr hlocks (fun k => ([q35, q36, q37, q38] : List Nat).getD (k - 35) 0) rfl (Nat.le_of_ble_eq_true rfl) (Nat.le_of_ble_eq_true rfl) dX0_init_45
def w_X4 (T : TyT) (h0 : Nat) (u : Nat → Nat) : va_W := [(h0, .inr (6, [.int 0, .ref (u 39), .ref (u 40), .ref (u 41), .ref (u 42)])), (u 39, zI T 600), (u 40, zI T 600), (u 41, zI T 200), (u 42, zI T 200)]
def rm_X4 : Room := { frames := 1, cells := 4, slots := 1600, locals := 12 }
set_option maxRecDepth 20000 in
set_option maxHeartbeats 4000000 in
theorem mn_X4 (l : Launch) (D : va_G) (T : TyT) : MN l D T yX4_init cX4_init rm_X4 6 fzX4 (w_X4 T) := by
  refine mn_entry (by decide) rfl ?_
  intro p e s m below meth c h0 C hr hlocks hin hN8
  have hz : fzX4.length = 5 := rfl
  refine n_obj C rfl (mgT 230 (by decide +kernel) (by decide +kernel)) oi_2 oi_3 (Nat.le_of_ble_eq_true rfl) (Nat.le_of_ble_eq_true rfl) dX4_init_0 dX4_init_1 ?_
  refine n_aload C 0 rfl rfl dX4_init_4 ?_
  refine n_iconst (v := 0) C dX4_init_5 (by decide) ?_
  refine n_put C hin cfX4 0 .int (by decide) (mgT 231 (by decide +kernel) (by decide +kernel)) rfl (by decide +kernel) rfl rfl hz dX4_init_6 [.int 0, .null, .null, .null, .null] [] rfl rfl (fun hz => ?_)
  refine n_aload C 0 rfl rfl dX4_init_9 ?_
  refine n_sipush (v := 600) C dX4_init_10 (by decide) ?_
  refine n_newI C 600 1 600 rfl rfl ac_I (by decide) (by decide) (by decide) (Nat.le_of_ble_eq_true rfl) (Nat.le_of_ble_eq_true rfl) dX4_init_13 (fun q39 => ?_)
  refine n_put C hin cfX4 1 (.array .int) (by decide) (mgT 234 (by decide +kernel) (by decide +kernel)) rfl (by decide +kernel) rfl rfl hz dX4_init_15 [.int 0, .ref q39, .null, .null, .null] [(q39, zI T 600)] rfl rfl (fun hz => ?_)
  refine n_aload C 0 rfl rfl dX4_init_18 ?_
  refine n_sipush (v := 600) C dX4_init_19 (by decide) ?_
  refine n_newI C 600 2 1200 rfl rfl ac_I (by decide) (by decide) (by decide) (Nat.le_of_ble_eq_true rfl) (Nat.le_of_ble_eq_true rfl) dX4_init_22 (fun q40 => ?_)
  refine n_put C hin cfX4 2 (.array .int) (by decide) (mgT 237 (by decide +kernel) (by decide +kernel)) rfl (by decide +kernel) rfl rfl hz dX4_init_24 [.int 0, .ref q39, .ref q40, .null, .null] [(q39, zI T 600), (q40, zI T 600)] rfl rfl (fun hz => ?_)
  refine n_aload C 0 rfl rfl dX4_init_27 ?_
  refine n_sipush (v := 200) C dX4_init_28 (by decide) ?_
  refine n_newI C 200 3 1400 rfl rfl ac_I (by decide) (by decide) (by decide) (Nat.le_of_ble_eq_true rfl) (Nat.le_of_ble_eq_true rfl) dX4_init_31 (fun q41 => ?_)
  refine n_put C hin cfX4 3 (.array .int) (by decide) (mgT 239 (by decide +kernel) (by decide +kernel)) rfl (by decide +kernel) rfl rfl hz dX4_init_33 [.int 0, .ref q39, .ref q40, .ref q41, .null] [(q39, zI T 600), (q40, zI T 600), (q41, zI T 200)] rfl rfl (fun hz => ?_)
  refine n_aload C 0 rfl rfl dX4_init_36 ?_
  refine n_sipush (v := 200) C dX4_init_37 (by decide) ?_
  refine n_newI C 200 4 1600 rfl rfl ac_I (by decide) (by decide) (by decide) (Nat.le_of_ble_eq_true rfl) (Nat.le_of_ble_eq_true rfl) dX4_init_40 (fun q42 => ?_)
  refine n_put C hin cfX4 4 (.array .int) (by decide) (mgT 240 (by decide +kernel) (by decide +kernel)) rfl (by decide +kernel) rfl rfl hz dX4_init_42 [.int 0, .ref q39, .ref q40, .ref q41, .ref q42] [(q39, zI T 600), (q40, zI T 600), (q41, zI T 200), (q42, zI T 200)] rfl rfl (fun hz => ?_)
  exact n_ret C hr hlocks (fun k => ([q39, q40, q41, q42] : List Nat).getD (k - 39) 0) rfl (Nat.le_of_ble_eq_true rfl) (Nat.le_of_ble_eq_true rfl) dX4_init_45
def w_X5 (T : TyT) (h0 : Nat) (u : Nat → Nat) : va_W := [(h0, .inr (7, [.int 0, .int 0, .ref (u 43), .ref (u 44)])), (u 43, zI T 600), (u 44, zI T 20)]
def rm_X5 : Room := { frames := 1, cells := 2, slots := 620, locals := 12 }
set_option maxRecDepth 20000 in
set_option maxHeartbeats 4000000 in
theorem mn_X5 (l : Launch) (D : va_G) (T : TyT) : MN l D T yX5_init cX5_init rm_X5 7 fzX5 (w_X5 T) := by
  refine mn_entry (by decide) rfl ?_
  intro p e s m below meth c h0 C hr hlocks hin hN8
  have hz : fzX5.length = 4 := rfl
  refine n_obj C rfl (mgT 257 (by decide +kernel) (by decide +kernel)) oi_2 oi_3 (Nat.le_of_ble_eq_true rfl) (Nat.le_of_ble_eq_true rfl) dX5_init_0 dX5_init_1 ?_
  refine n_aload C 0 rfl rfl dX5_init_4 ?_
  refine n_iconst (v := 0) C dX5_init_5 (by decide) ?_
  refine n_put C hin cfX5 0 .int (by decide) (mgT 258 (by decide +kernel) (by decide +kernel)) rfl (by decide +kernel) rfl rfl hz dX5_init_6 [.int 0, .int 0, .null, .null] [] rfl rfl (fun hz => ?_)
  refine n_aload C 0 rfl rfl dX5_init_9 ?_
  refine n_iconst (v := 0) C dX5_init_10 (by decide) ?_
  refine n_put C hin cfX5 1 .int (by decide) (mgT 260 (by decide +kernel) (by decide +kernel)) rfl (by decide +kernel) rfl rfl hz dX5_init_11 [.int 0, .int 0, .null, .null] [] rfl rfl (fun hz => ?_)
  refine n_aload C 0 rfl rfl dX5_init_14 ?_
  refine n_sipush (v := 600) C dX5_init_15 (by decide) ?_
  refine n_newI C 600 1 600 rfl rfl ac_I (by decide) (by decide) (by decide) (Nat.le_of_ble_eq_true rfl) (Nat.le_of_ble_eq_true rfl) dX5_init_18 (fun q43 => ?_)
  refine n_put C hin cfX5 2 (.array .int) (by decide) (mgT 262 (by decide +kernel) (by decide +kernel)) rfl (by decide +kernel) rfl rfl hz dX5_init_20 [.int 0, .int 0, .ref q43, .null] [(q43, zI T 600)] rfl rfl (fun hz => ?_)
  refine n_aload C 0 rfl rfl dX5_init_23 ?_
  refine n_bipush (v := 20) C dX5_init_24 (by decide) ?_
  refine n_newI C 20 2 620 rfl rfl ac_I (by decide) (by decide) (by decide) (Nat.le_of_ble_eq_true rfl) (Nat.le_of_ble_eq_true rfl) dX5_init_26 (fun q44 => ?_)
  refine n_put C hin cfX5 3 (.array .int) (by decide) (mgT 264 (by decide +kernel) (by decide +kernel)) rfl (by decide +kernel) rfl rfl hz dX5_init_28 [.int 0, .int 0, .ref q43, .ref q44] [(q43, zI T 600), (q44, zI T 20)] rfl rfl (fun hz => ?_)
  exact n_ret C hr hlocks (fun k => ([q43, q44] : List Nat).getD (k - 43) 0) rfl (Nat.le_of_ble_eq_true rfl) (Nat.le_of_ble_eq_true rfl) dX5_init_31
def w_X8 (T : TyT) (h0 : Nat) (u : Nat → Nat) : va_W := (h0, .inr (10, [.ref (u 1), .ref (u 2), .ref (u 3), .ref (u 4), .ref (u 5), .ref (u 6), .ref (u 7), .ref (u 8), .int 1])) :: (((((((([] ++ w_X7 T (u 1) u) ++ w_X2 T (u 2) u) ++ w_X3 T (u 3) u) ++ w_X1 T (u 4) u) ++ w_X6 T (u 5) u) ++ w_X0 T (u 6) u) ++ w_X4 T (u 7) u) ++ w_X5 T (u 8) u)
def rm_X8 : Room := { frames := 2, cells := 43, slots := 9711, locals := 32 }
set_option maxRecDepth 20000 in
set_option maxHeartbeats 4000000 in
theorem mn_X8 (l : Launch) (D : va_G) (T : TyT) : MN l D T yX8_init cX8_init rm_X8 10 fzX8 (w_X8 T) := by
  refine mn_entry (by decide) rfl ?_
  intro p e s m below meth c h0 C hr hlocks hin hN8
  have hz : fzX8.length = 9 := rfl
  refine n_obj C rfl (mgT 27 (by decide +kernel) (by decide +kernel)) oi_2 oi_3 (Nat.le_of_ble_eq_true rfl) (Nat.le_of_ble_eq_true rfl) dX8_init_0 dX8_init_1 ?_
  refine n_aload C 0 rfl rfl dX8_init_4 ?_
  refine n_new C cfX7 fzX7 1 8 rfl rfl (mgT 30 (by decide +kernel) (by decide +kernel)) (mgT 31 (by decide +kernel) (by decide +kernel)) (mgT 2 (by decide +kernel) (by decide +kernel)) fzX7_ok (Nat.le_of_ble_eq_true rfl) (Nat.le_of_ble_eq_true rfl) dX8_init_5 (fun q1 => ?_)
  refine n_dup C dX8_init_8 ?_
  refine n_callN C hN8 (mn_X7 l D T) 8 1408 rfl rfl (hN8 (11, yX7_init) (by decide +kernel)) (mgT 2 (by decide +kernel) (by decide +kernel)) (mgT 34 (by decide +kernel) (by decide +kernel)) (mgT 33 (by decide +kernel) (by decide +kernel)) rfl ⟨by decide, by decide, by decide +kernel⟩ ⟨Nat.le_of_ble_eq_true rfl, Nat.le_of_ble_eq_true rfl⟩ (Nat.le_of_ble_eq_true rfl) (Nat.le_of_ble_eq_true rfl) (Nat.le_of_ble_eq_true rfl) dX8_init_9 (fun u1 => ?_)
  refine n_put C hin cfX8 0 (.object "TextOrder$Signs") (by decide) (mgT 274 (by decide +kernel) (by decide +kernel)) rfl (by decide +kernel) rfl rfl hz dX8_init_12 _ _ rfl rfl (fun hz => ?_)
  refine n_aload C 0 rfl rfl dX8_init_15 ?_
  refine n_new C cfX2 fzX2 9 1410 rfl rfl (mgT 84 (by decide +kernel) (by decide +kernel)) (mgT 85 (by decide +kernel) (by decide +kernel)) (mgT 3 (by decide +kernel) (by decide +kernel)) fzX2_ok (Nat.le_of_ble_eq_true rfl) (Nat.le_of_ble_eq_true rfl) dX8_init_16 (fun q2 => ?_)
  refine n_dup C dX8_init_19 ?_
  refine n_callN C hN8 (mn_X2 l D T) 11 3458 rfl rfl (hN8 (18, yX2_init) (by decide +kernel)) (mgT 3 (by decide +kernel) (by decide +kernel)) (mgT 88 (by decide +kernel) (by decide +kernel)) (mgT 87 (by decide +kernel) (by decide +kernel)) rfl ⟨by decide, by decide, by decide +kernel⟩ ⟨Nat.le_of_ble_eq_true rfl, Nat.le_of_ble_eq_true rfl⟩ (Nat.le_of_ble_eq_true rfl) (Nat.le_of_ble_eq_true rfl) (Nat.le_of_ble_eq_true rfl) dX8_init_20 (fun u2 => ?_)
  refine n_put C hin cfX8 1 (.object "TextOrder$Maps") (by decide) (mgT 275 (by decide +kernel) (by decide +kernel)) rfl (by decide +kernel) rfl rfl hz dX8_init_23 _ _ rfl rfl (fun hz => ?_)
  refine n_aload C 0 rfl rfl dX8_init_26 ?_
  refine n_new C cfX3 fzX3 12 3463 rfl rfl (mgT 99 (by decide +kernel) (by decide +kernel)) (mgT 100 (by decide +kernel) (by decide +kernel)) (mgT 4 (by decide +kernel) (by decide +kernel)) fzX3_ok (Nat.le_of_ble_eq_true rfl) (Nat.le_of_ble_eq_true rfl) dX8_init_27 (fun q3 => ?_)
  refine n_dup C dX8_init_30 ?_
  refine n_callN C hN8 (mn_X3 l D T) 17 4463 rfl rfl (hN8 (25, yX3_init) (by decide +kernel)) (mgT 4 (by decide +kernel) (by decide +kernel)) (mgT 103 (by decide +kernel) (by decide +kernel)) (mgT 102 (by decide +kernel) (by decide +kernel)) rfl ⟨by decide, by decide, by decide +kernel⟩ ⟨Nat.le_of_ble_eq_true rfl, Nat.le_of_ble_eq_true rfl⟩ (Nat.le_of_ble_eq_true rfl) (Nat.le_of_ble_eq_true rfl) (Nat.le_of_ble_eq_true rfl) dX8_init_31 (fun u3 => ?_)
  refine n_put C hin cfX8 2 (.object "TextOrder$Places") (by decide) (mgT 276 (by decide +kernel) (by decide +kernel)) rfl (by decide +kernel) rfl rfl hz dX8_init_34 _ _ rfl rfl (fun hz => ?_)
  refine n_aload C 0 rfl rfl dX8_init_37 ?_
  refine n_new C cfX1 fzX1 18 4468 rfl rfl (mgT 129 (by decide +kernel) (by decide +kernel)) (mgT 130 (by decide +kernel) (by decide +kernel)) (mgT 5 (by decide +kernel) (by decide +kernel)) fzX1_ok (Nat.le_of_ble_eq_true rfl) (Nat.le_of_ble_eq_true rfl) dX8_init_38 (fun q4 => ?_)
  refine n_dup C dX8_init_41 ?_
  refine n_callN C hN8 (mn_X1 l D T) 21 5068 rfl rfl (hN8 (32, yX1_init) (by decide +kernel)) (mgT 5 (by decide +kernel) (by decide +kernel)) (mgT 133 (by decide +kernel) (by decide +kernel)) (mgT 132 (by decide +kernel) (by decide +kernel)) rfl ⟨by decide, by decide, by decide +kernel⟩ ⟨Nat.le_of_ble_eq_true rfl, Nat.le_of_ble_eq_true rfl⟩ (Nat.le_of_ble_eq_true rfl) (Nat.le_of_ble_eq_true rfl) (Nat.le_of_ble_eq_true rfl) dX8_init_42 (fun u4 => ?_)
  refine n_put C hin cfX8 3 (.object "TextOrder$Lines") (by decide) (mgT 277 (by decide +kernel) (by decide +kernel)) rfl (by decide +kernel) rfl rfl hz dX8_init_45 _ _ rfl rfl (fun hz => ?_)
  refine n_aload C 0 rfl rfl dX8_init_48 ?_
  refine n_new C cfX6 fzX6 22 5077 rfl rfl (mgT 158 (by decide +kernel) (by decide +kernel)) (mgT 159 (by decide +kernel) (by decide +kernel)) (mgT 6 (by decide +kernel) (by decide +kernel)) fzX6_ok (Nat.le_of_ble_eq_true rfl) (Nat.le_of_ble_eq_true rfl) dX8_init_49 (fun q5 => ?_)
  refine n_dup C dX8_init_52 ?_
  refine n_callN C hN8 (mn_X6 l D T) 30 6677 rfl rfl (hN8 (39, yX6_init) (by decide +kernel)) (mgT 6 (by decide +kernel) (by decide +kernel)) (mgT 162 (by decide +kernel) (by decide +kernel)) (mgT 161 (by decide +kernel) (by decide +kernel)) rfl ⟨by decide, by decide, by decide +kernel⟩ ⟨Nat.le_of_ble_eq_true rfl, Nat.le_of_ble_eq_true rfl⟩ (Nat.le_of_ble_eq_true rfl) (Nat.le_of_ble_eq_true rfl) (Nat.le_of_ble_eq_true rfl) dX8_init_53 (fun u5 => ?_)
  refine n_put C hin cfX8 4 (.object "TextOrder$Segments") (by decide) (mgT 278 (by decide +kernel) (by decide +kernel)) rfl (by decide +kernel) rfl rfl hz dX8_init_56 _ _ rfl rfl (fun hz => ?_)
  refine n_aload C 0 rfl rfl dX8_init_59 ?_
  refine n_new C cfX0 fzX0 31 6682 rfl rfl (mgT 203 (by decide +kernel) (by decide +kernel)) (mgT 204 (by decide +kernel) (by decide +kernel)) (mgT 7 (by decide +kernel) (by decide +kernel)) fzX0_ok (Nat.le_of_ble_eq_true rfl) (Nat.le_of_ble_eq_true rfl) dX8_init_60 (fun q6 => ?_)
  refine n_dup C dX8_init_63 ?_
  refine n_callN C hN8 (mn_X0 l D T) 35 7482 rfl rfl (hN8 (46, yX0_init) (by decide +kernel)) (mgT 7 (by decide +kernel) (by decide +kernel)) (mgT 207 (by decide +kernel) (by decide +kernel)) (mgT 206 (by decide +kernel) (by decide +kernel)) rfl ⟨by decide, by decide, by decide +kernel⟩ ⟨Nat.le_of_ble_eq_true rfl, Nat.le_of_ble_eq_true rfl⟩ (Nat.le_of_ble_eq_true rfl) (Nat.le_of_ble_eq_true rfl) (Nat.le_of_ble_eq_true rfl) dX8_init_64 (fun u6 => ?_)
  refine n_put C hin cfX8 5 (.object "TextOrder$Blocks") (by decide) (mgT 279 (by decide +kernel) (by decide +kernel)) rfl (by decide +kernel) rfl rfl hz dX8_init_67 _ _ rfl rfl (fun hz => ?_)
  refine n_aload C 0 rfl rfl dX8_init_70 ?_
  refine n_new C cfX4 fzX4 36 7487 rfl rfl (mgT 225 (by decide +kernel) (by decide +kernel)) (mgT 226 (by decide +kernel) (by decide +kernel)) (mgT 8 (by decide +kernel) (by decide +kernel)) fzX4_ok (Nat.le_of_ble_eq_true rfl) (Nat.le_of_ble_eq_true rfl) dX8_init_71 (fun q7 => ?_)
  refine n_dup C dX8_init_74 ?_
  refine n_callN C hN8 (mn_X4 l D T) 40 9087 rfl rfl (hN8 (53, yX4_init) (by decide +kernel)) (mgT 8 (by decide +kernel) (by decide +kernel)) (mgT 229 (by decide +kernel) (by decide +kernel)) (mgT 228 (by decide +kernel) (by decide +kernel)) rfl ⟨by decide, by decide, by decide +kernel⟩ ⟨Nat.le_of_ble_eq_true rfl, Nat.le_of_ble_eq_true rfl⟩ (Nat.le_of_ble_eq_true rfl) (Nat.le_of_ble_eq_true rfl) (Nat.le_of_ble_eq_true rfl) dX8_init_75 (fun u7 => ?_)
  refine n_put C hin cfX8 6 (.object "TextOrder$Script") (by decide) (mgT 280 (by decide +kernel) (by decide +kernel)) rfl (by decide +kernel) rfl rfl hz dX8_init_78 _ _ rfl rfl (fun hz => ?_)
  refine n_aload C 0 rfl rfl dX8_init_81 ?_
  refine n_new C cfX5 fzX5 41 9091 rfl rfl (mgT 252 (by decide +kernel) (by decide +kernel)) (mgT 253 (by decide +kernel) (by decide +kernel)) (mgT 9 (by decide +kernel) (by decide +kernel)) fzX5_ok (Nat.le_of_ble_eq_true rfl) (Nat.le_of_ble_eq_true rfl) dX8_init_82 (fun q8 => ?_)
  refine n_dup C dX8_init_85 ?_
  refine n_callN C hN8 (mn_X5 l D T) 43 9711 rfl rfl (hN8 (60, yX5_init) (by decide +kernel)) (mgT 9 (by decide +kernel) (by decide +kernel)) (mgT 256 (by decide +kernel) (by decide +kernel)) (mgT 255 (by decide +kernel) (by decide +kernel)) rfl ⟨by decide, by decide, by decide +kernel⟩ ⟨Nat.le_of_ble_eq_true rfl, Nat.le_of_ble_eq_true rfl⟩ (Nat.le_of_ble_eq_true rfl) (Nat.le_of_ble_eq_true rfl) (Nat.le_of_ble_eq_true rfl) dX8_init_86 (fun u8 => ?_)
  refine n_put C hin cfX8 7 (.object "TextOrder$Search") (by decide) (mgT 281 (by decide +kernel) (by decide +kernel)) rfl (by decide +kernel) rfl rfl hz dX8_init_89 _ _ rfl rfl (fun hz => ?_)
  refine n_aload C 0 rfl rfl dX8_init_92 ?_
  refine n_iconst (v := 1) C dX8_init_93 (by decide) ?_
  refine n_put C hin cfX8 8 .boolean (by decide) (mgT 282 (by decide +kernel) (by decide +kernel)) rfl (by decide +kernel) (nb01 (Or.inr rfl)) rfl hz dX8_init_94 _ _ rfl rfl (fun hz => ?_)
  exact n_ret C hr hlocks (fun k => if k = 1 then q1 else if k = 2 then q2 else if k = 3 then q3 else if k = 4 then q4 else if k = 5 then q5 else if k = 6 then q6 else if k = 7 then q7 else if k = 8 then q8 else if k < 17 then u1 k else if k < 19 then u2 k else if k < 24 then u3 k else if k < 27 then u4 k else if k < 35 then u5 k else if k < 39 then u6 k else if k < 43 then u7 k else if k < 45 then u8 k else 0) rfl (Nat.le_of_ble_eq_true rfl) (Nat.le_of_ble_eq_true rfl) dX8_init_97
