/-! The trees of the law's small methods. -/
def tl_L_sign_0 (P : Int32 → MemT → Prop) (x1 : Int32) (x2 : Int64) (x4 : Int64) (x6 : Int64) (x8 : Int32) (μ : MemT) : Prop :=
  ∃ (P1 : Int32 → MemT → Prop) (Q1 : String → MemT → Prop), sx_X8_sign x1 x2 x4 x6 x8 μ P1 Q1 ∧ (∀ (X0 : String) (μ0 : MemT), Q1 X0 μ0 → (X0 = "java/lang/IllegalArgumentException" ∧ P (1 : Int32) μ0) ∨ (X0 = "java/lang/UnsupportedOperationException" ∧ P (2 : Int32) μ0)) ∧ ∀ (r4 : Int32) (μ2 : MemT), P1 r4 μ2 → (vp_in (0 : Int32) 1 ∧ ∀ μ6 : MemT, μ6 = mwL μ2 76 (0 : Int32) r4.toInt64 → (P (0 : Int32) μ6))
def sl_L_sign (x1 : Int32) (x2 : Int64) (x4 : Int64) (x6 : Int64) (x8 : Int32) (μ : MemT) (P : Int32 → MemT → Prop) : Prop := tl_L_sign_0 P x1 x2 x4 x6 x8 μ
def tl_L_turn_0 (P : Int32 → MemT → Prop) (x1 : Int32) (x2 : Int32) (μ : MemT) : Prop :=
  ∃ (P1 : Int32 → MemT → Prop) (Q1 : String → MemT → Prop), sx_X8_turn x1 x2 μ P1 Q1 ∧ (∀ (X0 : String) (μ0 : MemT), Q1 X0 μ0 → (X0 = "java/util/NoSuchElementException" ∧ P (1 : Int32) μ0)) ∧ ∀ (r4 : Int32) (μ2 : MemT), P1 r4 μ2 → (vp_in (0 : Int32) 1 ∧ ∀ μ6 : MemT, μ6 = mwL μ2 76 (0 : Int32) r4.toInt64 → (P (0 : Int32) μ6))
def sl_L_turn (x1 : Int32) (x2 : Int32) (μ : MemT) (P : Int32 → MemT → Prop) : Prop := tl_L_turn_0 P x1 x2 μ
def tl_L_map_0 (P : Int32 → MemT → Prop) (x1 : Int32) (x2 : Int32) (x3 : Int32) (x4 : Int32) (μ : MemT) : Prop :=
  ∃ (P1 : Int32 → MemT → Prop) (Q1 : String → MemT → Prop), sx_X8_map x1 x2 x3 x4 μ P1 Q1 ∧ (∀ (X0 : String) (μ0 : MemT), Q1 X0 μ0 → (X0 = "java/lang/IndexOutOfBoundsException" ∧ P (1 : Int32) μ0) ∨ (X0 = "java/lang/IllegalArgumentException" ∧ P (2 : Int32) μ0)) ∧ ∀ (r4 : Int32) (μ2 : MemT), P1 r4 μ2 → (vp_in (0 : Int32) 1 ∧ ∀ μ6 : MemT, μ6 = mwL μ2 76 (0 : Int32) r4.toInt64 → (P (0 : Int32) μ6))
def sl_L_map (x1 : Int32) (x2 : Int32) (x3 : Int32) (x4 : Int32) (μ : MemT) (P : Int32 → MemT → Prop) : Prop := tl_L_map_0 P x1 x2 x3 x4 μ
def tl_L_tag_0 (P : Int32 → MemT → Prop) (x1 : Int32) (x2 : Int32) (μ : MemT) : Prop :=
  ∃ (P1 : Int32 → MemT → Prop) (Q1 : String → MemT → Prop), sx_X8_tag x1 x2 μ P1 Q1 ∧ (∀ (X0 : String) (μ0 : MemT), Q1 X0 μ0 → (X0 = "java/util/NoSuchElementException" ∧ P (1 : Int32) μ0) ∨ (X0 = "java/lang/IllegalArgumentException" ∧ P (2 : Int32) μ0)) ∧ ∀ (r4 : Int32) (μ2 : MemT), P1 r4 μ2 → (vp_in (0 : Int32) 1 ∧ ∀ μ6 : MemT, μ6 = mwL μ2 76 (0 : Int32) r4.toInt64 → (P (0 : Int32) μ6))
def sl_L_tag (x1 : Int32) (x2 : Int32) (μ : MemT) (P : Int32 → MemT → Prop) : Prop := tl_L_tag_0 P x1 x2 μ
def tl_L_letter_0 (P : Int32 → MemT → Prop) (x1 : Int32) (μ : MemT) : Prop :=
  ∃ (P1 : Int32 → MemT → Prop) (Q1 : String → MemT → Prop), sx_X8_letter x1 μ P1 Q1 ∧ (∀ (X0 : String) (μ0 : MemT), Q1 X0 μ0 → (X0 = "java/lang/IndexOutOfBoundsException" ∧ P (1 : Int32) μ0)) ∧ ∀ (r4 : Int32) (μ2 : MemT), P1 r4 μ2 → (vp_in (0 : Int32) 1 ∧ ∀ μ6 : MemT, μ6 = mwL μ2 76 (0 : Int32) r4.toInt64 → (P (0 : Int32) μ6))
def sl_L_letter (x1 : Int32) (μ : MemT) (P : Int32 → MemT → Prop) : Prop := tl_L_letter_0 P x1 μ
def tl_L_from_0 (P : Int32 → MemT → Prop) (x1 : Int32) (μ : MemT) : Prop :=
  ∃ (P1 : Int32 → MemT → Prop) (Q1 : String → MemT → Prop), sx_X8_from x1 μ P1 Q1 ∧ (∀ (X0 : String) (μ0 : MemT), Q1 X0 μ0 → (X0 = "java/lang/IndexOutOfBoundsException" ∧ P (1 : Int32) μ0)) ∧ ∀ (r4 : Int32) (μ2 : MemT), P1 r4 μ2 → (vp_in (0 : Int32) 1 ∧ ∀ μ6 : MemT, μ6 = mwL μ2 76 (0 : Int32) r4.toInt64 → (P (0 : Int32) μ6))
def sl_L_from (x1 : Int32) (μ : MemT) (P : Int32 → MemT → Prop) : Prop := tl_L_from_0 P x1 μ
def tl_L_line_0 (P : Int32 → MemT → Prop) (x1 : Int32) (μ : MemT) : Prop :=
  ∃ (P1 : Int32 → MemT → Prop) (Q1 : String → MemT → Prop), sx_X8_line x1 μ P1 Q1 ∧ (∀ (X0 : String) (μ0 : MemT), Q1 X0 μ0 → (X0 = "java/util/NoSuchElementException" ∧ P (1 : Int32) μ0)) ∧ ∀ (r4 : Int32) (μ2 : MemT), P1 r4 μ2 → (vp_in (0 : Int32) 1 ∧ ∀ μ6 : MemT, μ6 = mwL μ2 76 (0 : Int32) r4.toInt64 → (P (0 : Int32) μ6))
def sl_L_line (x1 : Int32) (μ : MemT) (P : Int32 → MemT → Prop) : Prop := tl_L_line_0 P x1 μ
def tl_L_block_0 (P : Int32 → MemT → Prop) (x1 : Int32) (μ : MemT) : Prop :=
  ∃ (P1 : Int32 → MemT → Prop) (Q1 : String → MemT → Prop), sx_X8_block x1 μ P1 Q1 ∧ (∀ (X0 : String) (μ0 : MemT), Q1 X0 μ0 → (X0 = "java/util/NoSuchElementException" ∧ P (1 : Int32) μ0)) ∧ ∀ (r4 : Int32) (μ2 : MemT), P1 r4 μ2 → (vp_in (0 : Int32) 1 ∧ ∀ μ6 : MemT, μ6 = mwL μ2 76 (0 : Int32) r4.toInt64 → (P (0 : Int32) μ6))
def sl_L_block (x1 : Int32) (μ : MemT) (P : Int32 → MemT → Prop) : Prop := tl_L_block_0 P x1 μ
def tl_L_twice_0 (P : Int32 → MemT → Prop) (x1 : Int32) (μ : MemT) : Prop :=
  ∃ (P1 : Int32 → MemT → Prop) (Q1 : String → MemT → Prop), sx_X8_twice x1 μ P1 Q1 ∧ (∀ (X0 : String) (μ0 : MemT), Q1 X0 μ0 → (X0 = "java/util/NoSuchElementException" ∧ P (1 : Int32) μ0)) ∧ ∀ (r4 : Int32) (μ2 : MemT), P1 r4 μ2 → (vp_in (0 : Int32) 1 ∧ ∀ μ6 : MemT, μ6 = mwL μ2 76 (0 : Int32) r4.toInt64 → (P (0 : Int32) μ6))
def sl_L_twice (x1 : Int32) (μ : MemT) (P : Int32 → MemT → Prop) : Prop := tl_L_twice_0 P x1 μ
def tl_L_space_0 (P : Int32 → MemT → Prop) (x1 : Int32) (μ : MemT) : Prop :=
  ∃ (P1 : Int32 → MemT → Prop) (Q1 : String → MemT → Prop), sx_X8_space x1 μ P1 Q1 ∧ (∀ (X0 : String) (μ0 : MemT), Q1 X0 μ0 → (X0 = "java/util/NoSuchElementException" ∧ P (1 : Int32) μ0)) ∧ ∀ (r4 : Int32) (μ2 : MemT), P1 r4 μ2 → ((r4 = 0 → (vp_in (0 : Int32) 1 ∧ ∀ μ6 : MemT, μ6 = mwL μ2 76 (0 : Int32) (0 : Int64) → (P (0 : Int32) μ6))) ∧ (¬ r4 = 0 → (vp_in (0 : Int32) 1 ∧ ∀ μ8 : MemT, μ8 = mwL μ2 76 (0 : Int32) (1 : Int64) → (P (0 : Int32) μ8))))
def sl_L_space (x1 : Int32) (μ : MemT) (P : Int32 → MemT → Prop) : Prop := tl_L_space_0 P x1 μ
def tl_L_share_0 (P : Int32 → MemT → Prop) (x1 : Int64) (x3 : Int64) (μ : MemT) : Prop :=
  ∃ (P1 : Int64 → MemT → Prop) (Q1 : String → MemT → Prop), sx_X8_share x1 x3 μ P1 Q1 ∧ (∀ (X0 : String) (μ0 : MemT), Q1 X0 μ0 → (X0 = "java/lang/ArithmeticException" ∧ P (1 : Int32) μ0)) ∧ ∀ (r4 : Int64) (μ2 : MemT), P1 r4 μ2 → (vp_in (0 : Int32) 1 ∧ ∀ μ6 : MemT, μ6 = mwL μ2 76 (0 : Int32) r4 → (P (0 : Int32) μ6))
def sl_L_share (x1 : Int64) (x3 : Int64) (μ : MemT) (P : Int32 → MemT → Prop) : Prop := tl_L_share_0 P x1 x3 μ
def tl_L_word_0 (P : Int32 → MemT → Prop) (x1 : Int32) (x2 : Int32) (μ : MemT) : Prop :=
  ∃ (P1 : Int32 → MemT → Prop) (Q1 : String → MemT → Prop), sx_X8_word x1 x2 μ P1 Q1 ∧ (∀ (X0 : String) (μ0 : MemT), Q1 X0 μ0 → (X0 = "java/lang/IndexOutOfBoundsException" ∧ P (1 : Int32) μ0)) ∧ ∀ (r4 : Int32) (μ2 : MemT), P1 r4 μ2 → (vp_in (0 : Int32) 1 ∧ ∀ μ6 : MemT, μ6 = mwL μ2 76 (0 : Int32) r4.toInt64 → (P (0 : Int32) μ6))
def sl_L_word (x1 : Int32) (x2 : Int32) (μ : MemT) (P : Int32 → MemT → Prop) : Prop := tl_L_word_0 P x1 x2 μ
def tl_L_find_0 (P : Int32 → MemT → Prop) (x1 : Int32) (μ : MemT) : Prop :=
  ∃ (P1 : Int32 → MemT → Prop) (Q1 : String → MemT → Prop), sx_X8_find x1 μ P1 Q1 ∧ (∀ (X0 : String) (μ0 : MemT), Q1 X0 μ0 → (X0 = "java/lang/IllegalArgumentException" ∧ P (1 : Int32) μ0) ∨ (X0 = "java/lang/UnsupportedOperationException" ∧ P (2 : Int32) μ0)) ∧ ∀ (r4 : Int32) (μ2 : MemT), P1 r4 μ2 → (vp_in (0 : Int32) 1 ∧ ∀ μ6 : MemT, μ6 = mwL μ2 76 (0 : Int32) r4.toInt64 → (P (0 : Int32) μ6))
def sl_L_find (x1 : Int32) (μ : MemT) (P : Int32 → MemT → Prop) : Prop := tl_L_find_0 P x1 μ
def tl_L_found_0 (P : Int32 → MemT → Prop) (x1 : Int32) (μ : MemT) : Prop :=
  ∃ (P1 : Int32 → MemT → Prop) (Q1 : String → MemT → Prop), sx_X8_found x1 μ P1 Q1 ∧ (∀ (X0 : String) (μ0 : MemT), Q1 X0 μ0 → (X0 = "java/lang/IndexOutOfBoundsException" ∧ P (1 : Int32) μ0)) ∧ ∀ (r4 : Int32) (μ2 : MemT), P1 r4 μ2 → (vp_in (0 : Int32) 1 ∧ ∀ μ6 : MemT, μ6 = mwL μ2 76 (0 : Int32) r4.toInt64 → (P (0 : Int32) μ6))
def sl_L_found (x1 : Int32) (μ : MemT) (P : Int32 → MemT → Prop) : Prop := tl_L_found_0 P x1 μ
