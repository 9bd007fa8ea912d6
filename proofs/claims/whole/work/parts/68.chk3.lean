theorem chk_25 : ∀ s2 : Fin 10, 5 < s2.val → chkJ 2 5 s2.val = true := by decide +kernel
theorem chk_26 : ∀ s2 : Fin 10, 6 < s2.val → chkJ 2 6 s2.val = true := by decide +kernel
theorem chk_27 : ∀ s2 : Fin 10, 7 < s2.val → chkJ 2 7 s2.val = true := by decide +kernel
theorem chk_28 : ∀ s2 : Fin 10, 8 < s2.val → chkJ 2 8 s2.val = true := by decide +kernel
theorem chk_34 : ∀ s2 : Fin 10, 4 < s2.val → chkJ 3 4 s2.val = true := by decide +kernel
