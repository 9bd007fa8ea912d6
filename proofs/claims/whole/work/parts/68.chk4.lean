theorem chk_35 : ∀ s2 : Fin 10, 5 < s2.val → chkJ 3 5 s2.val = true := by decide +kernel
theorem chk_36 : ∀ s2 : Fin 10, 6 < s2.val → chkJ 3 6 s2.val = true := by decide +kernel
theorem chk_37 : ∀ s2 : Fin 10, 7 < s2.val → chkJ 3 7 s2.val = true := by decide +kernel
theorem chk_38 : ∀ s2 : Fin 10, 8 < s2.val → chkJ 3 8 s2.val = true := by decide +kernel
theorem chk_45 : ∀ s2 : Fin 10, 5 < s2.val → chkJ 4 5 s2.val = true := by decide +kernel
