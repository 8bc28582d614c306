/-- the model after some minutes -/
def itM (n : Nat × Nat × Nat) : Nat → MS → MS
  | 0, M => M
  | j + 1, M => (f_X4_minute n (itM n j M)).2
theorem pass_ent {S17 S : MS} {s : Int32} (h : S17 = S) (z : (muS S17 0 s).1 0 = 0) : muS S17 0 s = muS S 0 0 := by
  have : s = 0 := by simpa [muS, up1] using z
  rw [h, this]
