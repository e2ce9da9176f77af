/-! floats: the library's laws of them are used further on, so every part is read over the whole library -/
theorem fw_good : FP.Core.Good FP.Core.b32 ∧ FP.Core.Good FP.Core.b64 := ⟨FP.Core.good_b32, FP.Core.good_b64⟩
