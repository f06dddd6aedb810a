/-! The memory of a run as plain functions: int (and boolean) rows by cell and place, long rows, int fields, the one long field. -/
abbrev MemT : Type := (Nat → Nat → Int32) × (Nat → Nat → Int64) × (Nat → Int32) × Int64
def mwI (μ : MemT) (k : Nat) (i : Int32) (v : Int32) : MemT := (va_up μ.1 k (upd (μ.1 k) i.toNatClampNeg v), μ.2)
def mwL (μ : MemT) (k : Nat) (i : Int32) (v : Int64) : MemT := (μ.1, va_up μ.2.1 k (vp_updL (μ.2.1 k) i.toNatClampNeg v), μ.2.2)
def mwF (μ : MemT) (f : Nat) (v : Int32) : MemT := (μ.1, μ.2.1, va_up μ.2.2.1 f v, μ.2.2.2)
def mwG (μ : MemT) (v : Int64) : MemT := (μ.1, μ.2.1, μ.2.2.1, v)
/-- the kind of a cell: 0 an object, 1 ints, 2 booleans, 3 longs -/
def mkdL : List Nat := [0, 0, 0, 0, 0, 0, 0, 0, 0, 0, 1, 3, 3, 3, 1, 2, 1, 1, 1, 3, 3, 1, 1, 1, 1, 1, 1, 1, 2, 2, 3, 3, 3, 3, 1, 1, 1, 1, 1, 1, 1, 1, 1, 1, 1, 1, 3, 3, 3, 1, 2, 1, 1, 1, 3, 3, 1, 1, 1, 1, 1, 1, 2, 1, 1, 3, 3, 3, 3, 1, 1, 1, 1, 1, 1, 1, 3]
def mlnL : List Nat := [0, 0, 0, 0, 0, 0, 0, 0, 0, 0, 200, 200, 200, 200, 200, 200, 200, 1024, 1024, 200, 200, 200, 200, 200, 200, 200, 200, 200, 200, 200, 200, 200, 200, 200, 200, 200, 200, 200, 200, 600, 600, 200, 200, 600, 20, 200, 200, 200, 200, 200, 200, 200, 1024, 1024, 200, 200, 200, 200, 200, 200, 200, 200, 200, 200, 200, 200, 200, 200, 200, 200, 200, 200, 600, 600, 20, 600, 1]
def mkd (k : Nat) : Nat := mkdL.getD k 0
def mln (k : Nat) : Nat := mlnL.getD k 0
/-- what is stored in a boolean row -/
def mnb (x : Int32) : Int32 := vp_nar .boolean x
