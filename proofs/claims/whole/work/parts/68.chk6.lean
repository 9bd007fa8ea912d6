theorem chk_58 : ∀ s2 : Fin 10, 8 < s2.val → chkJ 5 8 s2.val = true := by decide +kernel
theorem chk_67 : ∀ s2 : Fin 10, 7 < s2.val → chkJ 6 7 s2.val = true := by decide +kernel
theorem chk_68 : ∀ s2 : Fin 10, 8 < s2.val → chkJ 6 8 s2.val = true := by decide +kernel
theorem chk_78 : ∀ s2 : Fin 10, 8 < s2.val → chkJ 7 8 s2.val = true := by decide +kernel
