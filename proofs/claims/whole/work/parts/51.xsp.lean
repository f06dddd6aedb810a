/-! The trees of the methods that may throw. -/
def tx_X8_requireSign_0 (P : MemT → Prop) (PX : String → MemT → Prop) (x1 : Int32) (μ : MemT) : Prop :=
  (x1 < 0 → (PX "java/util/NoSuchElementException" μ)) ∧ (¬ x1 < 0 → ((x1 < (μ.2.2.1 1) → (P μ)) ∧ (¬ x1 < (μ.2.2.1 1) → (PX "java/util/NoSuchElementException" μ))))
def sx_X8_requireSign (x1 : Int32) (μ : MemT) (P : MemT → Prop) (PX : String → MemT → Prop) : Prop := tx_X8_requireSign_0 P PX x1 μ
def tx_X8_requireWithin_0 (P : MemT → Prop) (PX : String → MemT → Prop) (x1 : Int32) (x2 : Int32) (μ : MemT) : Prop :=
  (x1 < 0 → (PX "java/lang/IndexOutOfBoundsException" μ)) ∧ (¬ x1 < 0 → ((x1 < x2 → (P μ)) ∧ (¬ x1 < x2 → (PX "java/lang/IndexOutOfBoundsException" μ))))
def sx_X8_requireWithin (x1 : Int32) (x2 : Int32) (μ : MemT) (P : MemT → Prop) (PX : String → MemT → Prop) : Prop := tx_X8_requireWithin_0 P PX x1 x2 μ
def tx_X8_sign_61 (P : Int32 → MemT → Prop) (PX : String → MemT → Prop) (x1 : Int32) (x2 : Int64) (x4 : Int64) (x6 : Int64) (x8 : Int32) (y0 : Int32) (μ : MemT) : Prop :=
  (¬ y0 = 0 → (((μ.2.2.1 1) < (200 : Int32) → (∀ μ1 : MemT, μ1 = mwF μ 0 (0 : Int32) → (∃ P2 : Int32 → MemT → Prop, sp_X7_add x1 x2 x4 x6 x8 μ1 P2 ∧ ∀ (r5 : Int32) (μ3 : MemT), P2 r5 μ3 → (P r5 μ3)))) ∧ (¬ (μ.2.2.1 1) < (200 : Int32) → (PX "java/lang/UnsupportedOperationException" μ)))) ∧ (y0 = 0 → (PX "java/lang/IllegalArgumentException" μ))
def tx_X8_sign_60 (P : Int32 → MemT → Prop) (PX : String → MemT → Prop) (x1 : Int32) (x2 : Int64) (x4 : Int64) (x6 : Int64) (x8 : Int32) (μ : MemT) : Prop :=
  tx_X8_sign_61 P PX x1 x2 x4 x6 x8 (0 : Int32) μ
def tx_X8_sign_0 (P : Int32 → MemT → Prop) (PX : String → MemT → Prop) (x1 : Int32) (x2 : Int64) (x4 : Int64) (x6 : Int64) (x8 : Int32) (μ : MemT) : Prop :=
  (x1 < 0 → (tx_X8_sign_60 P PX x1 x2 x4 x6 x8 μ)) ∧ (¬ x1 < 0 → (((256 : Int32) ≤ x1 → (tx_X8_sign_60 P PX x1 x2 x4 x6 x8 μ)) ∧ (¬ (256 : Int32) ≤ x1 → (∃ P1 : Int32 → MemT → Prop, sp_X8_isCoordinate x2 μ P1 ∧ ∀ (r4 : Int32) (μ2 : MemT), P1 r4 μ2 → ((r4 = 0 → (tx_X8_sign_60 P PX x1 x2 x4 x6 x8 μ2)) ∧ (¬ r4 = 0 → (∃ P5 : Int32 → MemT → Prop, sp_X8_isCoordinate x4 μ2 P5 ∧ ∀ (r8 : Int32) (μ6 : MemT), P5 r8 μ6 → ((r8 = 0 → (tx_X8_sign_60 P PX x1 x2 x4 x6 x8 μ6)) ∧ (¬ r8 = 0 → ((x6 < (0 : Int64) → (tx_X8_sign_60 P PX x1 x2 x4 x6 x8 μ6)) ∧ (¬ x6 < (0 : Int64) → (((1000000 : Int64) < x6 → (tx_X8_sign_60 P PX x1 x2 x4 x6 x8 μ6)) ∧ (¬ (1000000 : Int64) < x6 → ((x8 < (1 : Int32) → (tx_X8_sign_60 P PX x1 x2 x4 x6 x8 μ6)) ∧ (¬ x8 < (1 : Int32) → (((1000 : Int32) < x8 → (tx_X8_sign_60 P PX x1 x2 x4 x6 x8 μ6)) ∧ (¬ (1000 : Int32) < x8 → (tx_X8_sign_61 P PX x1 x2 x4 x6 x8 (1 : Int32) μ6))))))))))))))))))
def sx_X8_sign (x1 : Int32) (x2 : Int64) (x4 : Int64) (x6 : Int64) (x8 : Int32) (μ : MemT) (P : Int32 → MemT → Prop) (PX : String → MemT → Prop) : Prop := tx_X8_sign_0 P PX x1 x2 x4 x6 x8 μ
def tx_X8_turn_0 (P : Int32 → MemT → Prop) (PX : String → MemT → Prop) (x1 : Int32) (x2 : Int32) (μ : MemT) : Prop :=
  ∃ P1 : MemT → Prop, sx_X8_requireSign x1 μ P1 PX ∧ ∀ μ2 : MemT, P1 μ2 → (vp_in x1 200 ∧ (vp_in x1 200 ∧ ∀ μ6 : MemT, μ6 = mwI μ2 15 x1 (mnb x2) → (∀ μ7 : MemT, μ7 = mwF μ6 0 (0 : Int32) → (((μ2.1 15 x1.toNatClampNeg) = 0 → (P (0 : Int32) μ7)) ∧ (¬ (μ2.1 15 x1.toNatClampNeg) = 0 → (P (1 : Int32) μ7))))))
def sx_X8_turn (x1 : Int32) (x2 : Int32) (μ : MemT) (P : Int32 → MemT → Prop) (PX : String → MemT → Prop) : Prop := tx_X8_turn_0 P PX x1 x2 μ
def tx_X8_map_0 (P : Int32 → MemT → Prop) (PX : String → MemT → Prop) (x1 : Int32) (x2 : Int32) (x3 : Int32) (x4 : Int32) (μ : MemT) : Prop :=
  (x1 < 0 → (PX "java/lang/IndexOutOfBoundsException" μ)) ∧ (¬ x1 < 0 → (((4 : Int32) ≤ x1 → (PX "java/lang/IndexOutOfBoundsException" μ)) ∧ (¬ (4 : Int32) ≤ x1 → ((x2 < 0 → (PX "java/lang/IndexOutOfBoundsException" μ)) ∧ (¬ x2 < 0 → ((x2 < (256 : Int32) → (∃ P1 : Int32 → MemT → Prop, sp_X8_areLetters x3 x4 μ P1 ∧ ∀ (r4 : Int32) (μ2 : MemT), P1 r4 μ2 → ((¬ r4 = 0 → (∃ P5 : Int32 → MemT → Prop, sp_X2_told x1 x2 μ2 P5 ∧ ∀ (r8 : Int32) (μ6 : MemT), P5 r8 μ6 → (∃ P9 : MemT → Prop, sp_X2_tell x1 x2 x3 x4 μ6 P9 ∧ ∀ μ10 : MemT, P9 μ10 → (∀ μ12 : MemT, μ12 = mwF μ10 0 (0 : Int32) → (P r8 μ12))))) ∧ (r4 = 0 → (PX "java/lang/IllegalArgumentException" μ2))))) ∧ (¬ x2 < (256 : Int32) → (PX "java/lang/IndexOutOfBoundsException" μ))))))))
def sx_X8_map (x1 : Int32) (x2 : Int32) (x3 : Int32) (x4 : Int32) (μ : MemT) (P : Int32 → MemT → Prop) (PX : String → MemT → Prop) : Prop := tx_X8_map_0 P PX x1 x2 x3 x4 μ
def tx_X8_tag_0 (P : Int32 → MemT → Prop) (PX : String → MemT → Prop) (x1 : Int32) (x2 : Int32) (μ : MemT) : Prop :=
  ∃ P1 : MemT → Prop, sx_X8_requireSign x1 μ P1 PX ∧ ∀ μ2 : MemT, P1 μ2 → ((x2 < (-1 : Int32) → (PX "java/lang/IllegalArgumentException" μ2)) ∧ (¬ x2 < (-1 : Int32) → ((x2 ≤ (100 : Int32) → (vp_in x1 200 ∧ (vp_in x1 200 ∧ ∀ μ6 : MemT, μ6 = mwI μ2 16 x1 x2 → (∀ μ7 : MemT, μ7 = mwF μ6 0 (0 : Int32) → (P (μ2.1 16 x1.toNatClampNeg) μ7))))) ∧ (¬ x2 ≤ (100 : Int32) → (PX "java/lang/IllegalArgumentException" μ2)))))
def sx_X8_tag (x1 : Int32) (x2 : Int32) (μ : MemT) (P : Int32 → MemT → Prop) (PX : String → MemT → Prop) : Prop := tx_X8_tag_0 P PX x1 x2 μ
def tx_X8_letter_0 (P : Int32 → MemT → Prop) (PX : String → MemT → Prop) (x1 : Int32) (μ : MemT) : Prop :=
  ∃ P1 : MemT → Prop, sp_X8_refresh μ P1 ∧ ∀ μ2 : MemT, P1 μ2 → (∃ P4 : MemT → Prop, sx_X8_requireWithin x1 (μ2.2.2.1 6) μ2 P4 PX ∧ ∀ μ5 : MemT, P4 μ5 → (vp_in x1 600 ∧ (P (μ5.1 39 x1.toNatClampNeg) μ5)))
def sx_X8_letter (x1 : Int32) (μ : MemT) (P : Int32 → MemT → Prop) (PX : String → MemT → Prop) : Prop := tx_X8_letter_0 P PX x1 μ
def tx_X8_from_0 (P : Int32 → MemT → Prop) (PX : String → MemT → Prop) (x1 : Int32) (μ : MemT) : Prop :=
  ∃ P1 : MemT → Prop, sp_X8_refresh μ P1 ∧ ∀ μ2 : MemT, P1 μ2 → (∃ P4 : MemT → Prop, sx_X8_requireWithin x1 (μ2.2.2.1 6) μ2 P4 PX ∧ ∀ μ5 : MemT, P4 μ5 → (vp_in x1 600 ∧ (P (μ5.1 40 x1.toNatClampNeg) μ5)))
def sx_X8_from (x1 : Int32) (μ : MemT) (P : Int32 → MemT → Prop) (PX : String → MemT → Prop) : Prop := tx_X8_from_0 P PX x1 μ
def tx_X8_line_0 (P : Int32 → MemT → Prop) (PX : String → MemT → Prop) (x1 : Int32) (μ : MemT) : Prop :=
  ∃ P1 : MemT → Prop, sx_X8_requireSign x1 μ P1 PX ∧ ∀ μ2 : MemT, P1 μ2 → (∃ P4 : MemT → Prop, sp_X8_refresh μ2 P4 ∧ ∀ μ5 : MemT, P4 μ5 → (vp_in x1 200 ∧ (P (μ5.1 26 x1.toNatClampNeg) μ5)))
def sx_X8_line (x1 : Int32) (μ : MemT) (P : Int32 → MemT → Prop) (PX : String → MemT → Prop) : Prop := tx_X8_line_0 P PX x1 μ
def tx_X8_block_0 (P : Int32 → MemT → Prop) (PX : String → MemT → Prop) (x1 : Int32) (μ : MemT) : Prop :=
  ∃ P1 : MemT → Prop, sx_X8_requireSign x1 μ P1 PX ∧ ∀ μ2 : MemT, P1 μ2 → (∃ P4 : MemT → Prop, sp_X8_refresh μ2 P4 ∧ ∀ μ5 : MemT, P4 μ5 → (∃ P7 : Int32 → MemT → Prop, sp_X0_blockOfSign x1 μ5 P7 ∧ ∀ (r10 : Int32) (μ8 : MemT), P7 r10 μ8 → (P r10 μ8)))
def sx_X8_block (x1 : Int32) (μ : MemT) (P : Int32 → MemT → Prop) (PX : String → MemT → Prop) : Prop := tx_X8_block_0 P PX x1 μ
def tx_X8_twice_0 (P : Int32 → MemT → Prop) (PX : String → MemT → Prop) (x1 : Int32) (μ : MemT) : Prop :=
  ∃ P1 : MemT → Prop, sx_X8_requireSign x1 μ P1 PX ∧ ∀ μ2 : MemT, P1 μ2 → (∃ P4 : MemT → Prop, sp_X8_refresh μ2 P4 ∧ ∀ μ5 : MemT, P4 μ5 → (vp_in x1 200 ∧ (P (μ5.1 23 x1.toNatClampNeg) μ5)))
def sx_X8_twice (x1 : Int32) (μ : MemT) (P : Int32 → MemT → Prop) (PX : String → MemT → Prop) : Prop := tx_X8_twice_0 P PX x1 μ
def tx_X8_space_0 (P : Int32 → MemT → Prop) (PX : String → MemT → Prop) (x1 : Int32) (μ : MemT) : Prop :=
  ∃ P1 : MemT → Prop, sx_X8_requireSign x1 μ P1 PX ∧ ∀ μ2 : MemT, P1 μ2 → (∃ P4 : MemT → Prop, sp_X8_refresh μ2 P4 ∧ ∀ μ5 : MemT, P4 μ5 → (vp_in x1 200 ∧ (((μ5.1 28 x1.toNatClampNeg) = 0 ∨ (μ5.1 28 x1.toNatClampNeg) = 1) ∧ P (μ5.1 28 x1.toNatClampNeg) μ5)))
def sx_X8_space (x1 : Int32) (μ : MemT) (P : Int32 → MemT → Prop) (PX : String → MemT → Prop) : Prop := tx_X8_space_0 P PX x1 μ
def tx_X8_share_0 (P : Int64 → MemT → Prop) (PX : String → MemT → Prop) (x1 : Int64) (x3 : Int64) (μ : MemT) : Prop :=
  (¬ x3 = (0 : Int64) → (∃ P1 : Int64 → MemT → Prop, sp_X8_shareOf x1 x3 μ P1 ∧ ∀ (r4 : Int64) (μ2 : MemT), P1 r4 μ2 → (P r4 μ2))) ∧ (x3 = (0 : Int64) → (PX "java/lang/ArithmeticException" μ))
def sx_X8_share (x1 : Int64) (x3 : Int64) (μ : MemT) (P : Int64 → MemT → Prop) (PX : String → MemT → Prop) : Prop := tx_X8_share_0 P PX x1 x3 μ
def tx_X8_word_0 (P : Int32 → MemT → Prop) (PX : String → MemT → Prop) (x1 : Int32) (x2 : Int32) (μ : MemT) : Prop :=
  ∃ P1 : MemT → Prop, sp_X8_refresh μ P1 ∧ ∀ μ2 : MemT, P1 μ2 → ((¬ x1 = (-1 : Int32) → ((x1 < 0 → (PX "java/lang/IndexOutOfBoundsException" μ2)) ∧ (¬ x1 < 0 → ((x2 < 0 → (PX "java/lang/IndexOutOfBoundsException" μ2)) ∧ (¬ x2 < 0 → ((x2 ≤ (1 : Int32) → (∃ P4 : Int32 → MemT → Prop, sp_X4_startOfWord x1 μ2 P4 ∧ ∀ (r7 : Int32) (μ5 : MemT), P4 r7 μ5 → ((0 ≤ r7 → ((¬ x2 = 0 → (∃ P8 : Int32 → MemT → Prop, sp_X4_endOfWord r7 μ5 P8 ∧ ∀ (r11 : Int32) (μ9 : MemT), P8 r11 μ9 → (P (r11 - r7) μ9))) ∧ (x2 = 0 → (P r7 μ5)))) ∧ (¬ 0 ≤ r7 → (PX "java/lang/IndexOutOfBoundsException" μ5))))) ∧ (¬ x2 ≤ (1 : Int32) → (PX "java/lang/IndexOutOfBoundsException" μ2)))))))) ∧ (x1 = (-1 : Int32) → (∃ P17 : Int32 → MemT → Prop, sp_X4_countWords μ2 P17 ∧ ∀ (r20 : Int32) (μ18 : MemT), P17 r20 μ18 → (P r20 μ18))))
def sx_X8_word (x1 : Int32) (x2 : Int32) (μ : MemT) (P : Int32 → MemT → Prop) (PX : String → MemT → Prop) : Prop := tx_X8_word_0 P PX x1 x2 μ
def tx_X8_find_0 (P : Int32 → MemT → Prop) (PX : String → MemT → Prop) (x1 : Int32) (μ : MemT) : Prop :=
  (x1 < 0 → (PX "java/lang/IllegalArgumentException" μ)) ∧ (¬ x1 < 0 → ((x1 ≤ (65535 : Int32) → ((¬ x1 = 0 → (((μ.2.2.1 7) < (20 : Int32) → (∃ P1 : Int32 → MemT → Prop, sp_X5_seek x1 μ P1 ∧ ∀ (r4 : Int32) (μ2 : MemT), P1 r4 μ2 → (P r4 μ2))) ∧ (¬ (μ.2.2.1 7) < (20 : Int32) → (PX "java/lang/UnsupportedOperationException" μ)))) ∧ (x1 = 0 → (∃ P6 : MemT → Prop, sp_X8_refresh μ P6 ∧ ∀ μ7 : MemT, P6 μ7 → (∃ P9 : Int32 → MemT → Prop, sp_X5_run μ7 P9 ∧ ∀ (r12 : Int32) (μ10 : MemT), P9 r12 μ10 → (P r12 μ10)))))) ∧ (¬ x1 ≤ (65535 : Int32) → (PX "java/lang/IllegalArgumentException" μ))))
def sx_X8_find (x1 : Int32) (μ : MemT) (P : Int32 → MemT → Prop) (PX : String → MemT → Prop) : Prop := tx_X8_find_0 P PX x1 μ
def tx_X8_found_0 (P : Int32 → MemT → Prop) (PX : String → MemT → Prop) (x1 : Int32) (μ : MemT) : Prop :=
  ∃ P1 : MemT → Prop, sx_X8_requireWithin x1 (μ.2.2.1 8) μ P1 PX ∧ ∀ μ2 : MemT, P1 μ2 → (vp_in x1 600 ∧ (P (μ2.1 43 x1.toNatClampNeg) μ2))
def sx_X8_found (x1 : Int32) (μ : MemT) (P : Int32 → MemT → Prop) (PX : String → MemT → Prop) : Prop := tx_X8_found_0 P PX x1 μ
