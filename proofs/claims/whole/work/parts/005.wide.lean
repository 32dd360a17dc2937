/-! a name of the rest of the library, named early: the first round then goes through the whole library at once -/
theorem wd_0 (x : Int32) : Jvm.Free.Fl.Fin32 (FP.i2f x) := Jvm.Free.Fl.i2f_fin x
