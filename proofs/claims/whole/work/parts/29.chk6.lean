theorem chk_479 : chkJ 4 7 9 = true := by decide +kernel
theorem chk_489 : chkJ 4 8 9 = true := by decide +kernel
theorem chk_567 : chkJ 5 6 7 = true := by decide +kernel
theorem chk_568 : chkJ 5 6 8 = true := by decide +kernel
theorem chk_569 : chkJ 5 6 9 = true := by decide +kernel
theorem chk_578 : chkJ 5 7 8 = true := by decide +kernel
theorem chk_579 : chkJ 5 7 9 = true := by decide +kernel
theorem chk_589 : chkJ 5 8 9 = true := by decide +kernel
theorem chk_678 : chkJ 6 7 8 = true := by decide +kernel
theorem chk_679 : chkJ 6 7 9 = true := by decide +kernel
theorem chk_689 : chkJ 6 8 9 = true := by decide +kernel
theorem chk_789 : chkJ 7 8 9 = true := by decide +kernel
theorem chkAll {a b c : Nat} (h : 1 ≤ a ∧ a < b ∧ b < c ∧ c ≤ 9) : chkJ a b c = true := by
  have ha : a = 1 ∨ a = 2 ∨ a = 3 ∨ a = 4 ∨ a = 5 ∨ a = 6 ∨ a = 7 := by omega
  rcases ha with e | e | e | e | e | e | e
  · subst e
    have hb : b = 2 ∨ b = 3 ∨ b = 4 ∨ b = 5 ∨ b = 6 ∨ b = 7 ∨ b = 8 := by omega
    rcases hb with f | f | f | f | f | f | f
    · subst f
      have hc : c = 3 ∨ c = 4 ∨ c = 5 ∨ c = 6 ∨ c = 7 ∨ c = 8 ∨ c = 9 := by omega
      rcases hc with g | g | g | g | g | g | g
      · rw [g]; exact chk_123
      · rw [g]; exact chk_124
      · rw [g]; exact chk_125
      · rw [g]; exact chk_126
      · rw [g]; exact chk_127
      · rw [g]; exact chk_128
      · rw [g]; exact chk_129
    · subst f
      have hc : c = 4 ∨ c = 5 ∨ c = 6 ∨ c = 7 ∨ c = 8 ∨ c = 9 := by omega
      rcases hc with g | g | g | g | g | g
      · rw [g]; exact chk_134
      · rw [g]; exact chk_135
      · rw [g]; exact chk_136
      · rw [g]; exact chk_137
      · rw [g]; exact chk_138
      · rw [g]; exact chk_139
    · subst f
      have hc : c = 5 ∨ c = 6 ∨ c = 7 ∨ c = 8 ∨ c = 9 := by omega
      rcases hc with g | g | g | g | g
      · rw [g]; exact chk_145
      · rw [g]; exact chk_146
      · rw [g]; exact chk_147
      · rw [g]; exact chk_148
      · rw [g]; exact chk_149
    · subst f
      have hc : c = 6 ∨ c = 7 ∨ c = 8 ∨ c = 9 := by omega
      rcases hc with g | g | g | g
      · rw [g]; exact chk_156
      · rw [g]; exact chk_157
      · rw [g]; exact chk_158
      · rw [g]; exact chk_159
    · subst f
      have hc : c = 7 ∨ c = 8 ∨ c = 9 := by omega
      rcases hc with g | g | g
      · rw [g]; exact chk_167
      · rw [g]; exact chk_168
      · rw [g]; exact chk_169
    · subst f
      have hc : c = 8 ∨ c = 9 := by omega
      rcases hc with g | g
      · rw [g]; exact chk_178
      · rw [g]; exact chk_179
    · subst f
      have hc : c = 9 := by omega
      rw [hc]; exact chk_189
  · subst e
    have hb : b = 3 ∨ b = 4 ∨ b = 5 ∨ b = 6 ∨ b = 7 ∨ b = 8 := by omega
    rcases hb with f | f | f | f | f | f
    · subst f
      have hc : c = 4 ∨ c = 5 ∨ c = 6 ∨ c = 7 ∨ c = 8 ∨ c = 9 := by omega
      rcases hc with g | g | g | g | g | g
      · rw [g]; exact chk_234
      · rw [g]; exact chk_235
      · rw [g]; exact chk_236
      · rw [g]; exact chk_237
      · rw [g]; exact chk_238
      · rw [g]; exact chk_239
    · subst f
      have hc : c = 5 ∨ c = 6 ∨ c = 7 ∨ c = 8 ∨ c = 9 := by omega
      rcases hc with g | g | g | g | g
      · rw [g]; exact chk_245
      · rw [g]; exact chk_246
      · rw [g]; exact chk_247
      · rw [g]; exact chk_248
      · rw [g]; exact chk_249
    · subst f
      have hc : c = 6 ∨ c = 7 ∨ c = 8 ∨ c = 9 := by omega
      rcases hc with g | g | g | g
      · rw [g]; exact chk_256
      · rw [g]; exact chk_257
      · rw [g]; exact chk_258
      · rw [g]; exact chk_259
    · subst f
      have hc : c = 7 ∨ c = 8 ∨ c = 9 := by omega
      rcases hc with g | g | g
      · rw [g]; exact chk_267
      · rw [g]; exact chk_268
      · rw [g]; exact chk_269
    · subst f
      have hc : c = 8 ∨ c = 9 := by omega
      rcases hc with g | g
      · rw [g]; exact chk_278
      · rw [g]; exact chk_279
    · subst f
      have hc : c = 9 := by omega
      rw [hc]; exact chk_289
  · subst e
    have hb : b = 4 ∨ b = 5 ∨ b = 6 ∨ b = 7 ∨ b = 8 := by omega
    rcases hb with f | f | f | f | f
    · subst f
      have hc : c = 5 ∨ c = 6 ∨ c = 7 ∨ c = 8 ∨ c = 9 := by omega
      rcases hc with g | g | g | g | g
      · rw [g]; exact chk_345
      · rw [g]; exact chk_346
      · rw [g]; exact chk_347
      · rw [g]; exact chk_348
      · rw [g]; exact chk_349
    · subst f
      have hc : c = 6 ∨ c = 7 ∨ c = 8 ∨ c = 9 := by omega
      rcases hc with g | g | g | g
      · rw [g]; exact chk_356
      · rw [g]; exact chk_357
      · rw [g]; exact chk_358
      · rw [g]; exact chk_359
    · subst f
      have hc : c = 7 ∨ c = 8 ∨ c = 9 := by omega
      rcases hc with g | g | g
      · rw [g]; exact chk_367
      · rw [g]; exact chk_368
      · rw [g]; exact chk_369
    · subst f
      have hc : c = 8 ∨ c = 9 := by omega
      rcases hc with g | g
      · rw [g]; exact chk_378
      · rw [g]; exact chk_379
    · subst f
      have hc : c = 9 := by omega
      rw [hc]; exact chk_389
  · subst e
    have hb : b = 5 ∨ b = 6 ∨ b = 7 ∨ b = 8 := by omega
    rcases hb with f | f | f | f
    · subst f
      have hc : c = 6 ∨ c = 7 ∨ c = 8 ∨ c = 9 := by omega
      rcases hc with g | g | g | g
      · rw [g]; exact chk_456
      · rw [g]; exact chk_457
      · rw [g]; exact chk_458
      · rw [g]; exact chk_459
    · subst f
      have hc : c = 7 ∨ c = 8 ∨ c = 9 := by omega
      rcases hc with g | g | g
      · rw [g]; exact chk_467
      · rw [g]; exact chk_468
      · rw [g]; exact chk_469
    · subst f
      have hc : c = 8 ∨ c = 9 := by omega
      rcases hc with g | g
      · rw [g]; exact chk_478
      · rw [g]; exact chk_479
    · subst f
      have hc : c = 9 := by omega
      rw [hc]; exact chk_489
  · subst e
    have hb : b = 6 ∨ b = 7 ∨ b = 8 := by omega
    rcases hb with f | f | f
    · subst f
      have hc : c = 7 ∨ c = 8 ∨ c = 9 := by omega
      rcases hc with g | g | g
      · rw [g]; exact chk_567
      · rw [g]; exact chk_568
      · rw [g]; exact chk_569
    · subst f
      have hc : c = 8 ∨ c = 9 := by omega
      rcases hc with g | g
      · rw [g]; exact chk_578
      · rw [g]; exact chk_579
    · subst f
      have hc : c = 9 := by omega
      rw [hc]; exact chk_589
  · subst e
    have hb : b = 7 ∨ b = 8 := by omega
    rcases hb with f | f
    · subst f
      have hc : c = 8 ∨ c = 9 := by omega
      rcases hc with g | g
      · rw [g]; exact chk_678
      · rw [g]; exact chk_679
    · subst f
      have hc : c = 9 := by omega
      rw [hc]; exact chk_689
  · subst e
    have hb : b = 8 := by omega
    have f := hb
    · subst f
      have hc : c = 9 := by omega
      rw [hc]; exact chk_789
