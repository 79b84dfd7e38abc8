def xIO : String := "java/lang/IndexOutOfBoundsException"
def xUp : List String := ["java/lang/RuntimeException", "java/lang/Exception"]
def oaRef : List Cond := [.isRef (.static Bundle.tN "UNASSIGNED_STACK" Bundle.steD), .isRef (.static Bundle.tN "SUPPRESSED_SENTINEL" Bundle.listD)]
set_option maxRecDepth 100000 in
theorem oa_1 : ∀ a ∈ Bundle.throwableAtoms, a ∈ tables_1 := by decide +kernel
set_option maxRecDepth 100000 in
theorem oa_2 : ∀ a ∈ Bundle.throwableSAtoms, a ∈ tables_1 := by decide +kernel
set_option maxRecDepth 100000 in
theorem oa_3 : ∀ a ∈ Bundle.chainSAtoms xIO xUp, a ∈ tables_1 := by decide +kernel
set_option maxRecDepth 100000 in
theorem oa_4 : ∀ a ∈ Bundle.ownAtoms "RangeReckoner" 85 xIO xUp, a ∈ oaRef ∨ goodWord a = true := by decide +kernel
