/-! a name of the library's second half, which the making of rows of rows needs: so the rounds are read over the whole library from their first part on -/
theorem zz_wide (s : State) (c comp : ClassId) (N M : Nat) (dv : Value) {a : Addr} (ha : a < s.heap.size) (i : Nat) : (Jvm.Free.Multi.fill s c comp N M dv i).heap[a]? = s.heap[a]? := Jvm.Free.Multi.fill_old s c comp N M dv ha i
