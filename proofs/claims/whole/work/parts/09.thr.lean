/-! the words of a throw -/
def gws : List Cond := lw_tbl.filter goodWord
def wIA : String := "java/lang/IllegalArgumentException"
def wIO : String := "java/lang/IndexOutOfBoundsException"
def wNm : List String := ["java/lang/RuntimeException", "java/lang/Exception"]
theorem thIA : ∀ w ∈ (vx_atS "FloatTexts" 70 wIA wNm).filter goodWord, w ∈ gws := by decide +kernel
theorem thIO : ∀ w ∈ (vx_atS "FloatTexts" 189 wIO wNm).filter goodWord, w ∈ gws := by decide +kernel
theorem tbIA : ∀ w ∈ (vx_atS "FloatTexts" 70 wIA wNm).filter (fun w => !goodWord w), w ∈ [Cond.castable wIA wIA, .declares (Bundle.initS "java/lang/RuntimeException"), .declares (Bundle.initS "java/lang/Exception"), .declares (Bundle.initS "java/lang/Throwable")] := by decide +kernel
theorem tbIO : ∀ w ∈ (vx_atS "FloatTexts" 189 wIO wNm).filter (fun w => !goodWord w), w ∈ [Cond.castable wIO wIO, .declares (Bundle.initS "java/lang/RuntimeException"), .declares (Bundle.initS "java/lang/Exception"), .declares (Bundle.initS "java/lang/Throwable")] := by decide +kernel
theorem tcIA : Cond.classLink "FloatTexts" 66 wIA ∈ gws ∧ Cond.initialized wIA ∈ gws := by decide +kernel
theorem tcIO : Cond.classLink "FloatTexts" 185 wIO ∈ gws ∧ Cond.initialized wIO ∈ gws := by decide +kernel
theorem tgIA : ∀ w ∈ Cond.classLink "FloatTexts" 66 wIA :: Cond.initialized wIA :: vx_atS "FloatTexts" 70 wIA wNm, vx_ot w = true := by decide +kernel
theorem tgIO : ∀ w ∈ Cond.classLink "FloatTexts" 185 wIO :: Cond.initialized wIO :: vx_atS "FloatTexts" 189 wIO wNm, vx_ot w = true := by decide +kernel
