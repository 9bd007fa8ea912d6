theorem chk_46 : ∀ s2 : Fin 10, 6 < s2.val → chkJ 4 6 s2.val = true := by decide +kernel
theorem chk_47 : ∀ s2 : Fin 10, 7 < s2.val → chkJ 4 7 s2.val = true := by decide +kernel
theorem chk_48 : ∀ s2 : Fin 10, 8 < s2.val → chkJ 4 8 s2.val = true := by decide +kernel
theorem chk_56 : ∀ s2 : Fin 10, 6 < s2.val → chkJ 5 6 s2.val = true := by decide +kernel
theorem chk_57 : ∀ s2 : Fin 10, 7 < s2.val → chkJ 5 7 s2.val = true := by decide +kernel
