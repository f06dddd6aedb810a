/-! Plain rows: numbers, memory, frames. (fa_, fb_: pasted from the kit's NUMBERS, COUNTS.) -/
theorem fa_lt (a b : Int32) : a < b ↔ a.toInt < b.toInt := Int32.lt_iff_toInt_lt
theorem fa_le (a b : Int32) : a ≤ b ↔ a.toInt ≤ b.toInt := Int32.le_iff_toInt_le
theorem fa_eq (a b : Int32) : a = b ↔ a.toInt = b.toInt := Int32.toInt_inj.symm
theorem fa_lt64 (a b : Int64) : a < b ↔ a.toInt < b.toInt := Int64.lt_iff_toInt_lt
theorem fa_le64 (a b : Int64) : a ≤ b ↔ a.toInt ≤ b.toInt := Int64.le_iff_toInt_le
theorem fa_eq64 (a b : Int64) : a = b ↔ a.toInt = b.toInt := Int64.toInt_inj.symm
theorem fa_wide_lt (a b : Int32) : a.toInt64 < b.toInt64 ↔ a < b := by rw [fa_lt64, fa_lt, Int32.toInt_toInt64, Int32.toInt_toInt64]
theorem fa_wide_le (a b : Int32) : a.toInt64 ≤ b.toInt64 ↔ a ≤ b := by rw [fa_le64, fa_le, Int32.toInt_toInt64, Int32.toInt_toInt64]
theorem fa_wide_eq (a b : Int32) : a.toInt64 = b.toInt64 ↔ a = b := by rw [fa_eq64, fa_eq, Int32.toInt_toInt64, Int32.toInt_toInt64]
theorem fa_lit (n : Nat) : (OfNat.ofNat n : Int32) = nI n := rfl
theorem fa_litL (n : Nat) : (OfNat.ofNat n : Int64) = lN n := rfl
theorem fb_rng (x : Int32) : -2147483648 ≤ x.toInt ∧ x.toInt < 2147483648 := by
  have h1 := Int32.le_toInt x
  have h2 := Int32.toInt_lt x
  omega
theorem fb_bmod {z : Int} (h1 : -2147483648 ≤ z) (h2 : z < 2147483648) : z.bmod (2 ^ 32) = z := by
  rw [Int.bmod_eq_of_le (by omega) (by omega)]
theorem fb_addI {x y : Int32} (h1 : -2147483648 ≤ x.toInt + y.toInt) (h2 : x.toInt + y.toInt < 2147483648) : (x + y).toInt = x.toInt + y.toInt := by
  rw [Int32.toInt_add, fb_bmod h1 h2]
theorem fb_subI {x y : Int32} (h1 : -2147483648 ≤ x.toInt - y.toInt) (h2 : x.toInt - y.toInt < 2147483648) : (x - y).toInt = x.toInt - y.toInt := by
  rw [Int32.toInt_sub, fb_bmod h1 h2]
theorem fb_mulI {x y : Int32} (h1 : -2147483648 ≤ x.toInt * y.toInt) (h2 : x.toInt * y.toInt < 2147483648) : (x * y).toInt = x.toInt * y.toInt := by
  rw [Int32.toInt_mul, fb_bmod h1 h2]
theorem fb_negI {x : Int32} (h : x.toInt ≠ -2147483648) : (-x).toInt = -x.toInt := by
  have := fb_rng x
  rw [Int32.toInt_neg, fb_bmod (by omega) (by omega)]
theorem fb_ofI {z : Int} (h1 : -2147483648 ≤ z) (h2 : z < 2147483648) : (Int32.ofInt z).toInt = z := by
  rw [Int32.toInt_ofInt, fb_bmod h1 h2]
theorem fb_asI (x : Int32) : Int32.ofInt x.toInt = x := Int32.ofInt_toInt x
theorem fb_rngL (x : Int64) : -9223372036854775808 ≤ x.toInt ∧ x.toInt < 9223372036854775808 := by
  have h1 := Int64.le_toInt x
  have h2 := Int64.toInt_lt x
  omega
theorem fb_bmodL {z : Int} (h1 : -9223372036854775808 ≤ z) (h2 : z < 9223372036854775808) : z.bmod (2 ^ 64) = z := by
  rw [Int.bmod_eq_of_le (by omega) (by omega)]
theorem fb_addL {x y : Int64} (h1 : -9223372036854775808 ≤ x.toInt + y.toInt) (h2 : x.toInt + y.toInt < 9223372036854775808) : (x + y).toInt = x.toInt + y.toInt := by
  rw [Int64.toInt_add, fb_bmodL h1 h2]
theorem fb_subL {x y : Int64} (h1 : -9223372036854775808 ≤ x.toInt - y.toInt) (h2 : x.toInt - y.toInt < 9223372036854775808) : (x - y).toInt = x.toInt - y.toInt := by
  rw [Int64.toInt_sub, fb_bmodL h1 h2]
theorem fb_mulL {x y : Int64} (h1 : -9223372036854775808 ≤ x.toInt * y.toInt) (h2 : x.toInt * y.toInt < 9223372036854775808) : (x * y).toInt = x.toInt * y.toInt := by
  rw [Int64.toInt_mul, fb_bmodL h1 h2]
/-! ===== cuts of what is narrow already ===== -/
theorem cI {i : Nat} (h : i < 2147483648) : (nI i).toNatClampNeg = i := nI_clamp h
theorem tI {i : Nat} (h : i < 2147483648) : (nI i).toInt = (i : Int) := nI_toInt h
theorem t_m1 : (-1 : Int32).toInt = -1 := by decide
theorem nI_ne_m1 {i : Nat} (h : i < 2147483648) : nI i ≠ -1 := by
  intro e
  have h1 := tI h
  rw [e, t_m1] at h1
  omega
theorem lit32 (n : Nat) : (OfNat.ofNat n : Int32) = nI n := fa_lit n
theorem inI {i n : Nat} (h : i < n) (hn : n < 2147483648) : vp_in (nI i) n := vp_in_nI h hn
theorem tL64 (x : Int32) : x.toInt64.toInt = x.toInt := Int32.toInt_toInt64 x
theorem lt64 {a b : Int64} : a < b ↔ a.toInt < b.toInt := fa_lt64 a b
theorem le64 {a b : Int64} : a ≤ b ↔ a.toInt ≤ b.toInt := fa_le64 a b
theorem eq64 {a b : Int64} : a = b ↔ a.toInt = b.toInt := fa_eq64 a b
theorem lt32 {a b : Int32} : a < b ↔ a.toInt < b.toInt := fa_lt a b
theorem le32 {a b : Int32} : a ≤ b ↔ a.toInt ≤ b.toInt := fa_le a b
theorem eq32 {a b : Int32} : a = b ↔ a.toInt = b.toInt := fa_eq a b
theorem nI_inj {a b : Nat} (ha : a < 2147483648) (hb : b < 2147483648) (h : nI a = nI b) : a = b := (nI_eq ha hb).mp h
-- memory
theorem mI_1 (μ : MemT) (k : Nat) (i v : Int32) : (mwI μ k i v).1 = va_up μ.1 k (upd (μ.1 k) i.toNatClampNeg v) := rfl
theorem mI_2 (μ : MemT) (k : Nat) (i v : Int32) : (mwI μ k i v).2 = μ.2 := rfl
theorem mL_1 (μ : MemT) (k : Nat) (i : Int32) (v : Int64) : (mwL μ k i v).1 = μ.1 := rfl
theorem mL_21 (μ : MemT) (k : Nat) (i : Int32) (v : Int64) : (mwL μ k i v).2.1 = va_up μ.2.1 k (vp_updL (μ.2.1 k) i.toNatClampNeg v) := rfl
theorem mL_22 (μ : MemT) (k : Nat) (i : Int32) (v : Int64) : (mwL μ k i v).2.2 = μ.2.2 := rfl
theorem mF_1 (μ : MemT) (f : Nat) (v : Int32) : (mwF μ f v).1 = μ.1 := rfl
theorem mF_21 (μ : MemT) (f : Nat) (v : Int32) : (mwF μ f v).2.1 = μ.2.1 := rfl
theorem mF_221 (μ : MemT) (f : Nat) (v : Int32) : (mwF μ f v).2.2.1 = va_up μ.2.2.1 f v := rfl
theorem mF_222 (μ : MemT) (f : Nat) (v : Int32) : (mwF μ f v).2.2.2 = μ.2.2.2 := rfl
theorem mG_1 (μ : MemT) (v : Int64) : (mwG μ v).1 = μ.1 := rfl
theorem mG_21 (μ : MemT) (v : Int64) : (mwG μ v).2.1 = μ.2.1 := rfl
theorem mG_221 (μ : MemT) (v : Int64) : (mwG μ v).2.2.1 = μ.2.2.1 := rfl
theorem mG_222 (μ : MemT) (v : Int64) : (mwG μ v).2.2.2 = v := rfl
theorem upE {α : Type} (f : Nat → α) (k : Nat) (v : α) : va_up f k v k = v := by simp [va_up]
theorem upN {α : Type} (f : Nat → α) {k j : Nat} (v : α) (h : j ≠ k) : va_up f k v j = f j := by simp [va_up, h]
theorem udE (f : Nat → Int32) (k : Nat) (x : Int32) : upd f k x k = x := by simp [upd]
theorem udN (f : Nat → Int32) {k j : Nat} (x : Int32) (h : j ≠ k) : upd f k x j = f j := by simp [upd, h]
theorem ulE (f : Nat → Int64) (k : Nat) (x : Int64) : vp_updL f k x k = x := by simp [vp_updL]
theorem ulN (f : Nat → Int64) {k j : Nat} (x : Int64) (h : j ≠ k) : vp_updL f k x j = f j := by simp [vp_updL, h]
/-- outside these rows, long rows and fields nothing has changed (g: the long field may have) -/
def Fr (SI SL SF : List Nat) (g : Bool) (μ μ' : MemT) : Prop := (∀ k, k ∉ SI → μ'.1 k = μ.1 k) ∧ (∀ k, k ∉ SL → μ'.2.1 k = μ.2.1 k) ∧ (∀ f, f ∉ SF → μ'.2.2.1 f = μ.2.2.1 f) ∧ (g = false → μ'.2.2.2 = μ.2.2.2)
theorem Fr.rf {SI SL SF : List Nat} {g : Bool} (μ : MemT) : Fr SI SL SF g μ μ := ⟨fun _ _ => rfl, fun _ _ => rfl, fun _ _ => rfl, fun _ => rfl⟩
theorem Fr.tr {SI SL SF : List Nat} {g : Bool} {μ μ1 μ2 : MemT} (h : Fr SI SL SF g μ μ1) (h2 : Fr SI SL SF g μ1 μ2) : Fr SI SL SF g μ μ2 := ⟨fun k hk => (h2.1 k hk).trans (h.1 k hk), fun k hk => (h2.2.1 k hk).trans (h.2.1 k hk), fun k hk => (h2.2.2.1 k hk).trans (h.2.2.1 k hk), fun hg => (h2.2.2.2 hg).trans (h.2.2.2 hg)⟩
theorem Fr.mono {SI SL SF SI' SL' SF' : List Nat} {g g' : Bool} {μ μ' : MemT} (h : Fr SI SL SF g μ μ') (h1 : ∀ k ∈ SI, k ∈ SI') (h2 : ∀ k ∈ SL, k ∈ SL') (h3 : ∀ k ∈ SF, k ∈ SF') (h4 : g' = false → g = false) : Fr SI' SL' SF' g' μ μ' := ⟨fun k hk => h.1 k (fun z => hk (h1 k z)), fun k hk => h.2.1 k (fun z => hk (h2 k z)), fun k hk => h.2.2.1 k (fun z => hk (h3 k z)), fun q => h.2.2.2 (h4 q)⟩
theorem Fr.wI {SI SL SF : List Nat} {g : Bool} (μ : MemT) {k : Nat} (i v : Int32) (hk : k ∈ SI) : Fr SI SL SF g μ (mwI μ k i v) := ⟨fun j hj => by rw [mI_1]; exact upN _ _ (fun e => hj (e ▸ hk)), fun _ _ => rfl, fun _ _ => rfl, fun _ => rfl⟩
theorem Fr.wL {SI SL SF : List Nat} {g : Bool} (μ : MemT) {k : Nat} (i : Int32) (v : Int64) (hk : k ∈ SL) : Fr SI SL SF g μ (mwL μ k i v) := ⟨fun _ _ => rfl, fun j hj => by rw [mL_21]; exact upN _ _ (fun e => hj (e ▸ hk)), fun _ _ => rfl, fun _ => rfl⟩
theorem Fr.wF {SI SL SF : List Nat} {g : Bool} (μ : MemT) {f : Nat} (v : Int32) (hk : f ∈ SF) : Fr SI SL SF g μ (mwF μ f v) := ⟨fun _ _ => rfl, fun _ _ => rfl, fun j hj => by rw [mF_221]; exact upN _ _ (fun e => hj (e ▸ hk)), fun _ => rfl⟩
theorem Fr.wG {SI SL SF : List Nat} (μ : MemT) (v : Int64) : Fr SI SL SF true μ (mwG μ v) := ⟨fun _ _ => rfl, fun _ _ => rfl, fun _ _ => rfl, fun h => by cases h⟩
