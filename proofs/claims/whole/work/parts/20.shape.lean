/-! ===== the shape of the store as the constructors leave it ===== -/
def SHT : List (Int × Nat × Int) := [(1, 11, 0), (2, 9, 0), (3, 22, 200), (4, 20, 4), (5, 1, 0), (6, 7, 0), (7, 20, 60), (8, 21, 60), (9, 26, 24), (10, 20, 1715), (11, 20, 3), (12, 20, 3), (13, 3, 0), (14, 20, 48), (15, 20, 16), (16, 3, 0), (17, 20, 48), (18, 20, 16), (19, 3, 0), (20, 20, 48), (21, 20, 16), (22, 3, 0), (23, 20, 48), (24, 20, 16), (25, 3, 0), (26, 20, 48), (27, 20, 16), (28, 3, 0), (29, 20, 48), (30, 20, 16), (31, 3, 0), (32, 20, 48), (33, 20, 16), (34, 3, 0), (35, 20, 48), (36, 20, 16), (37, 3, 0), (38, 20, 48), (39, 20, 16), (40, 3, 0), (41, 20, 48), (42, 20, 16), (43, 3, 0), (44, 20, 48), (45, 20, 16), (46, 3, 0), (47, 20, 48), (48, 20, 16), (49, 3, 0), (50, 20, 48), (51, 20, 16), (52, 3, 0), (53, 20, 48), (54, 20, 16), (55, 3, 0), (56, 20, 48), (57, 20, 16), (58, 3, 0), (59, 20, 48), (60, 20, 16), (61, 3, 0), (62, 20, 48), (63, 20, 16), (64, 3, 0), (65, 20, 48), (66, 20, 16), (67, 3, 0), (68, 20, 48), (69, 20, 16), (70, 3, 0), (71, 20, 48), (72, 20, 16), (73, 3, 0), (74, 20, 48), (75, 20, 16), (76, 3, 0), (77, 20, 48), (78, 20, 16), (79, 3, 0), (80, 20, 48), (81, 20, 16), (82, 3, 0), (83, 20, 48), (84, 20, 16), (85, 2, 0), (86, 20, 400), (87, 20, 9), (88, 20, 3), (89, 20, 3), (90, 20, 3), (91, 20, 9), (92, 20, 3), (93, 5, 0), (94, 23, 6), (95, 2, 0), (96, 20, 400), (97, 20, 9), (98, 20, 3), (99, 20, 3), (100, 20, 3), (101, 20, 9), (102, 20, 3), (103, 2, 0), (104, 20, 400), (105, 20, 9), (106, 20, 3), (107, 20, 3), (108, 20, 3), (109, 20, 9), (110, 20, 3), (111, 2, 0), (112, 20, 400), (113, 20, 9), (114, 20, 3), (115, 20, 3), (116, 20, 3), (117, 20, 9), (118, 20, 3), (119, 2, 0), (120, 20, 400), (121, 20, 9), (122, 20, 3), (123, 20, 3), (124, 20, 3), (125, 20, 9), (126, 20, 3), (127, 2, 0), (128, 20, 400), (129, 20, 9), (130, 20, 3), (131, 20, 3), (132, 20, 3), (133, 20, 9), (134, 20, 3), (135, 2, 0), (136, 20, 400), (137, 20, 9), (138, 20, 3), (139, 20, 3), (140, 20, 3), (141, 20, 9), (142, 20, 3), (143, 4, 0), (144, 20, 3), (145, 20, 3), (146, 20, 3), (147, 23, 3), (148, 10, 0), (149, 20, 18), (150, 20, 3), (151, 20, 3), (152, 2, 0), (153, 20, 400), (154, 20, 9), (155, 20, 3), (156, 20, 3), (157, 20, 3), (158, 20, 9), (159, 20, 3), (160, 2, 0), (161, 20, 400), (162, 20, 9), (163, 20, 3), (164, 20, 3), (165, 20, 3), (166, 20, 9), (167, 20, 3), (168, 2, 0), (169, 20, 400), (170, 20, 9), (171, 20, 3), (172, 20, 3), (173, 20, 3), (174, 20, 9), (175, 20, 3), (176, 24, 9), (177, 8, 0), (178, 20, 3), (179, 20, 9), (180, 25, 3), (181, 20, 400), (182, 6, 0), (183, 20, 60), (184, 20, 5), (185, 6, 0), (186, 20, 60), (187, 20, 5), (188, 6, 0), (189, 20, 60), (190, 20, 5), (191, 8, 0), (192, 20, 3), (193, 20, 9), (194, 25, 3), (195, 20, 400), (196, 6, 0), (197, 20, 60), (198, 20, 5), (199, 6, 0), (200, 20, 60), (201, 20, 5), (202, 6, 0), (203, 20, 60), (204, 20, 5), (205, 10, 0), (206, 20, 18), (207, 20, 3), (208, 20, 3), (209, 10, 0), (210, 20, 18), (211, 20, 3), (212, 20, 3), (213, 10, 0), (214, 20, 18), (215, 20, 3), (216, 20, 3), (217, 10, 0), (218, 20, 18), (219, 20, 3), (220, 20, 3), (221, 10, 0), (222, 20, 18), (223, 20, 3), (224, 20, 3), (225, 10, 0), (226, 20, 18), (227, 20, 3), (228, 20, 3), (229, 10, 0), (230, 20, 18), (231, 20, 3), (232, 20, 3), (233, 10, 0), (234, 20, 18), (235, 20, 3), (236, 20, 3), (237, 10, 0), (238, 20, 18), (239, 20, 3), (240, 20, 3), (241, 12, 0), (242, 20, 433), (243, 20, 433), (244, 20, 2598), (245, 20, 200), (246, 20, 3), (247, 20, 9), (248, 20, 3), (249, 20, 15), (250, 20, 3), (251, 20, 180), (252, 20, 3), (253, 20, 3), (254, 20, 15), (255, 20, 3), (256, 20, 180), (257, 20, 60), (258, 21, 60), (259, 20, 10633), (260, 20, 10290), (261, 20, 61), (262, 21, 61), (263, 20, 18), (264, 20, 18), (265, 21, 18), (266, 20, 3), (267, 20, 3)]
def SHR : List (Int × Nat × Int × Int) := [(1, 11, 0, 2), (1, 11, 1, 5), (1, 11, 2, 85), (1, 11, 3, 93), (1, 11, 4, 143), (1, 11, 5, 176), (2, 9, 0, 3), (2, 9, 1, 4), (5, 1, 0, 6), (5, 1, 1, 9), (5, 1, 3, 11), (5, 1, 4, 12), (6, 7, 0, 7), (6, 7, 1, 8), (93, 5, 0, 94), (143, 4, 0, 144), (143, 4, 1, 145), (143, 4, 2, 146), (143, 4, 3, 147), (143, 4, 4, 148), (241, 12, 0, 242), (241, 12, 1, 243), (241, 12, 2, 244), (241, 12, 4, 245), (241, 12, 7, 246), (241, 12, 9, 247), (241, 12, 11, 248), (241, 12, 12, 249), (241, 12, 13, 250), (241, 12, 14, 251), (241, 12, 19, 252), (241, 12, 21, 253), (241, 12, 22, 254), (241, 12, 23, 255), (241, 12, 24, 256), (241, 12, 25, 257), (241, 12, 26, 258), (241, 12, 28, 259), (241, 12, 29, 260), (241, 12, 30, 261), (241, 12, 31, 262), (241, 12, 32, 263), (241, 12, 33, 264), (241, 12, 34, 265), (241, 12, 37, 266), (241, 12, 38, 267)]
def ShU (g : Shp) (m : Mem) : Prop := ∀ r : Int, (gk g r = 2 → (m r 0 = r + 1 ∧ gk g (r + 1) = 20 ∧ gl g (r + 1) = 400) ∧ (m r 1 = r + 2 ∧ gk g (r + 2) = 20 ∧ gl g (r + 2) = 9) ∧ (m r 2 = r + 3 ∧ gk g (r + 3) = 20 ∧ gl g (r + 3) = 3) ∧ (m r 3 = r + 4 ∧ gk g (r + 4) = 20 ∧ gl g (r + 4) = 3) ∧ (m r 4 = r + 5 ∧ gk g (r + 5) = 20 ∧ gl g (r + 5) = 3) ∧ (m r 5 = r + 6 ∧ gk g (r + 6) = 20 ∧ gl g (r + 6) = 9) ∧ (m r 6 = r + 7 ∧ gk g (r + 7) = 20 ∧ gl g (r + 7) = 3)) ∧ (gk g r = 6 → (m r 0 = r + 1 ∧ gk g (r + 1) = 20 ∧ gl g (r + 1) = 60) ∧ (m r 1 = r + 2 ∧ gk g (r + 2) = 20 ∧ gl g (r + 2) = 5)) ∧ (gk g r = 8 → (m r 0 = r + 1 ∧ gk g (r + 1) = 20 ∧ gl g (r + 1) = 3) ∧ (m r 1 = r + 2 ∧ gk g (r + 2) = 20 ∧ gl g (r + 2) = 9) ∧ (m r 2 = r + 3 ∧ gk g (r + 3) = 25 ∧ gl g (r + 3) = 3) ∧ (m r 3 = r + 4 ∧ gk g (r + 4) = 20 ∧ gl g (r + 4) = 400)) ∧ (gk g r = 10 → (m r 0 = r + 1 ∧ gk g (r + 1) = 20 ∧ gl g (r + 1) = 18) ∧ (m r 1 = r + 2 ∧ gk g (r + 2) = 20 ∧ gl g (r + 2) = 3) ∧ (m r 2 = r + 3 ∧ gk g (r + 3) = 20 ∧ gl g (r + 3) = 3)) ∧ (gk g r = 3 → (m r 0 = r + 1 ∧ gk g (r + 1) = 20 ∧ gl g (r + 1) = 48) ∧ (m r 1 = r + 2 ∧ gk g (r + 2) = 20 ∧ gl g (r + 2) = 16)) ∧ (gk g r = 24 → gl g r = 9 ∧ ∀ i, 0 ≤ i → i < 9 → m r i = r + (29 + 4 * i) ∧ gk g (r + (29 + 4 * i)) = 10) ∧ (gk g r = 25 → gl g r = 3 ∧ ∀ i, 0 ≤ i → i < 3 → m r i = r + (2 + 3 * i) ∧ gk g (r + (2 + 3 * i)) = 6) ∧ (gk g r = 26 → gl g r = 24 ∧ ∀ i, 0 ≤ i → i < 24 → m r i = r + (4 + 3 * i) ∧ gk g (r + (4 + 3 * i)) = 3) ∧ (gk g r = 23 → ∀ i, 0 ≤ i → i < gl g r → gk g (m r i) = 2)
def ShT (g : Shp) : Prop := ∀ q ∈ SHT, gk g q.1 = q.2.1 ∧ gl g q.1 = q.2.2
def ShR (m : Mem) : Prop := ∀ q ∈ SHR, m q.1 q.2.2.1 = q.2.2.2
def ShD (g : Shp) (m : Mem) : Prop := gk g (m 1 6) = 8 ∧ gk g (m 1 7) = 8 ∧ gk g (m 5 2) = 20
def Sh (g : Shp) (m : Mem) : Prop := ShT g ∧ ShR m ∧ ShD g m ∧ ShU g m
def sameRefs (g : Shp) (m m' : Mem) : Prop := ∀ r j, isRs (gk g r) j → m' r j = m r j
theorem sameRefs.rf (g : Shp) (m : Mem) : sameRefs g m m := fun _ _ _ => rfl
theorem sameRefs.tr {g : Shp} {a b c : Mem} (h : sameRefs g a b) (h2 : sameRefs g b c) : sameRefs g a c := fun r j hr => (h2 r j hr).trans (h r j hr)
theorem sameRefs.s {g : Shp} {m m' : Mem} {r j v : Int} (h : m' = ms m r j v) (hn : ¬ isRs (gk g r) j) : sameRefs g m m' := by
  subst h
  intro a b hab
  exact ms_ne (fun h => hn (by rw [← h.1, ← h.2]; exact hab))
theorem sameRefs.cp {g : Shp} {m m' : Mem} {s sp d dp n : Int} (h : m' = mcp m s sp d dp n) (hk : gk g d = 20) : sameRefs g m m' := by
  subst h
  intro a b hab
  unfold mcp
  split
  · rename_i q
    rw [q.1, hk] at hab
    exact absurd hab (nRs (by decide) (by decide) _)
  · rfl
theorem nRa {g : Shp} {r j : Int} {k : Nat} (hk : gk g r = k) (h : 20 ≤ k ∧ k < 23) : ¬ isRs (gk g r) j := by rw [hk]; exact nRs h.1 h.2 j
theorem nRf {g : Shp} {r j : Int} {k : Nat} (hk : gk g r = k) (h20 : k < 20) (h : kRef k j.toNat = false) : ¬ isRs (gk g r) j := by
  rw [hk]
  intro h2
  rcases h2 with h2 | h2
  · rw [h] at h2
    exact absurd h2.2 (by decide)
  · omega
theorem SHR_ok : ∀ q ∈ SHR, q.2.1 < 20 ∧ kRef q.2.1 q.2.2.1.toNat = true ∧ (q.1, q.2.1, (0 : Int)) ∈ SHT := by decide +kernel
theorem Sh.n {g : Shp} {m m' : Mem} (h : Sh g m) (hn : sameRefs g m m') : Sh g m' := by
  obtain ⟨hT, hR, hD, hU⟩ := h
  have h1 : gk g 1 = 11 := (hT (1, 11, 0) (by decide +kernel)).1
  have h5 : gk g 5 = 1 := (hT (5, 1, 0) (by decide +kernel)).1
  have rf : ∀ {r j : Int} {k : Nat}, gk g r = k → k < 20 → kRef k j.toNat = true → m' r j = m r j := fun hk h20 hr => hn _ _ (Or.inl ⟨by rw [hk]; exact h20, by rw [hk]; exact hr⟩)
  have ra : ∀ {r j : Int} {k : Nat}, gk g r = k → 23 ≤ k → m' r j = m r j := fun hk h23 => hn _ _ (Or.inr (by rw [hk]; exact h23))
  refine ⟨hT, fun q hq => ?_, ⟨?_, ?_, ?_⟩, fun r => ?_⟩
  · obtain ⟨a, b, c⟩ := SHR_ok q hq
    rw [rf (hT _ c).1 a b]
    exact hR q hq
  · rw [rf h1 (by decide) (by decide)]; exact hD.1
  · rw [rf h1 (by decide) (by decide)]; exact hD.2.1
  · rw [rf h5 (by decide) (by decide)]; exact hD.2.2
  · obtain ⟨u2, u6, u8, u10, u3, u24, u25, u26, u23⟩ := hU r
    refine ⟨fun hk => by
      have q := u2 hk
      refine ⟨⟨by rw [rf hk (by decide) (by decide)]; exact q.1.1, q.1.2⟩, ⟨by rw [rf hk (by decide) (by decide)]; exact q.2.1.1, q.2.1.2⟩, ⟨by rw [rf hk (by decide) (by decide)]; exact q.2.2.1.1, q.2.2.1.2⟩, ⟨by rw [rf hk (by decide) (by decide)]; exact q.2.2.2.1.1, q.2.2.2.1.2⟩, ⟨by rw [rf hk (by decide) (by decide)]; exact q.2.2.2.2.1.1, q.2.2.2.2.1.2⟩, ⟨by rw [rf hk (by decide) (by decide)]; exact q.2.2.2.2.2.1.1, q.2.2.2.2.2.1.2⟩, ⟨by rw [rf hk (by decide) (by decide)]; exact q.2.2.2.2.2.2.1, q.2.2.2.2.2.2.2⟩⟩,
      fun hk => by
      have q := u6 hk
      refine ⟨⟨by rw [rf hk (by decide) (by decide)]; exact q.1.1, q.1.2⟩, ⟨by rw [rf hk (by decide) (by decide)]; exact q.2.1, q.2.2⟩⟩,
      fun hk => by
      have q := u8 hk
      refine ⟨⟨by rw [rf hk (by decide) (by decide)]; exact q.1.1, q.1.2⟩, ⟨by rw [rf hk (by decide) (by decide)]; exact q.2.1.1, q.2.1.2⟩, ⟨by rw [rf hk (by decide) (by decide)]; exact q.2.2.1.1, q.2.2.1.2⟩, ⟨by rw [rf hk (by decide) (by decide)]; exact q.2.2.2.1, q.2.2.2.2⟩⟩,
      fun hk => by
      have q := u10 hk
      refine ⟨⟨by rw [rf hk (by decide) (by decide)]; exact q.1.1, q.1.2⟩, ⟨by rw [rf hk (by decide) (by decide)]; exact q.2.1.1, q.2.1.2⟩, ⟨by rw [rf hk (by decide) (by decide)]; exact q.2.2.1, q.2.2.2⟩⟩,
      fun hk => by
      have q := u3 hk
      refine ⟨⟨by rw [rf hk (by decide) (by decide)]; exact q.1.1, q.1.2⟩, ⟨by rw [rf hk (by decide) (by decide)]; exact q.2.1, q.2.2⟩⟩,
      fun hk => ⟨(u24 hk).1, fun i h0 h1 => ⟨by rw [ra hk (by decide)]; exact ((u24 hk).2 i h0 h1).1, ((u24 hk).2 i h0 h1).2⟩⟩,
      fun hk => ⟨(u25 hk).1, fun i h0 h1 => ⟨by rw [ra hk (by decide)]; exact ((u25 hk).2 i h0 h1).1, ((u25 hk).2 i h0 h1).2⟩⟩,
      fun hk => ⟨(u26 hk).1, fun i h0 h1 => ⟨by rw [ra hk (by decide)]; exact ((u26 hk).2 i h0 h1).1, ((u26 hk).2 i h0 h1).2⟩⟩,
      fun hk i h0 h1 => by rw [ra hk (by decide)]; exact u23 hk i h0 h1⟩
theorem s_1_0 {g : Shp} {m : Mem} (h : Sh g m) : m 1 0 = 2 ∧ gk g 2 = 9 ∧ gl g 2 = 0 := ⟨h.2.1 (1, 11, 0, 2) (List.mem_of_getElem? (i := 0) rfl), (h.1 (2, 9, 0) (List.mem_of_getElem? (i := 1) rfl)).1, (h.1 (2, 9, 0) (List.mem_of_getElem? (i := 1) rfl)).2⟩
theorem s_1_1 {g : Shp} {m : Mem} (h : Sh g m) : m 1 1 = 5 ∧ gk g 5 = 1 ∧ gl g 5 = 0 := ⟨h.2.1 (1, 11, 1, 5) (List.mem_of_getElem? (i := 1) rfl), (h.1 (5, 1, 0) (List.mem_of_getElem? (i := 4) rfl)).1, (h.1 (5, 1, 0) (List.mem_of_getElem? (i := 4) rfl)).2⟩
theorem s_1_2 {g : Shp} {m : Mem} (h : Sh g m) : m 1 2 = 85 ∧ gk g 85 = 2 ∧ gl g 85 = 0 := ⟨h.2.1 (1, 11, 2, 85) (List.mem_of_getElem? (i := 2) rfl), (h.1 (85, 2, 0) (List.mem_of_getElem? (i := 84) rfl)).1, (h.1 (85, 2, 0) (List.mem_of_getElem? (i := 84) rfl)).2⟩
theorem s_1_3 {g : Shp} {m : Mem} (h : Sh g m) : m 1 3 = 93 ∧ gk g 93 = 5 ∧ gl g 93 = 0 := ⟨h.2.1 (1, 11, 3, 93) (List.mem_of_getElem? (i := 3) rfl), (h.1 (93, 5, 0) (List.mem_of_getElem? (i := 92) rfl)).1, (h.1 (93, 5, 0) (List.mem_of_getElem? (i := 92) rfl)).2⟩
theorem s_1_4 {g : Shp} {m : Mem} (h : Sh g m) : m 1 4 = 143 ∧ gk g 143 = 4 ∧ gl g 143 = 0 := ⟨h.2.1 (1, 11, 4, 143) (List.mem_of_getElem? (i := 4) rfl), (h.1 (143, 4, 0) (List.mem_of_getElem? (i := 142) rfl)).1, (h.1 (143, 4, 0) (List.mem_of_getElem? (i := 142) rfl)).2⟩
theorem s_1_5 {g : Shp} {m : Mem} (h : Sh g m) : m 1 5 = 176 ∧ gk g 176 = 24 ∧ gl g 176 = 9 := ⟨h.2.1 (1, 11, 5, 176) (List.mem_of_getElem? (i := 5) rfl), (h.1 (176, 24, 9) (List.mem_of_getElem? (i := 175) rfl)).1, (h.1 (176, 24, 9) (List.mem_of_getElem? (i := 175) rfl)).2⟩
theorem s_2_0 {g : Shp} {m : Mem} (h : Sh g m) : m 2 0 = 3 ∧ gk g 3 = 22 ∧ gl g 3 = 200 := ⟨h.2.1 (2, 9, 0, 3) (List.mem_of_getElem? (i := 6) rfl), (h.1 (3, 22, 200) (List.mem_of_getElem? (i := 2) rfl)).1, (h.1 (3, 22, 200) (List.mem_of_getElem? (i := 2) rfl)).2⟩
theorem s_2_1 {g : Shp} {m : Mem} (h : Sh g m) : m 2 1 = 4 ∧ gk g 4 = 20 ∧ gl g 4 = 4 := ⟨h.2.1 (2, 9, 1, 4) (List.mem_of_getElem? (i := 7) rfl), (h.1 (4, 20, 4) (List.mem_of_getElem? (i := 3) rfl)).1, (h.1 (4, 20, 4) (List.mem_of_getElem? (i := 3) rfl)).2⟩
theorem s_5_0 {g : Shp} {m : Mem} (h : Sh g m) : m 5 0 = 6 ∧ gk g 6 = 7 ∧ gl g 6 = 0 := ⟨h.2.1 (5, 1, 0, 6) (List.mem_of_getElem? (i := 8) rfl), (h.1 (6, 7, 0) (List.mem_of_getElem? (i := 5) rfl)).1, (h.1 (6, 7, 0) (List.mem_of_getElem? (i := 5) rfl)).2⟩
theorem s_5_1 {g : Shp} {m : Mem} (h : Sh g m) : m 5 1 = 9 ∧ gk g 9 = 26 ∧ gl g 9 = 24 := ⟨h.2.1 (5, 1, 1, 9) (List.mem_of_getElem? (i := 9) rfl), (h.1 (9, 26, 24) (List.mem_of_getElem? (i := 8) rfl)).1, (h.1 (9, 26, 24) (List.mem_of_getElem? (i := 8) rfl)).2⟩
theorem s_5_3 {g : Shp} {m : Mem} (h : Sh g m) : m 5 3 = 11 ∧ gk g 11 = 20 ∧ gl g 11 = 3 := ⟨h.2.1 (5, 1, 3, 11) (List.mem_of_getElem? (i := 10) rfl), (h.1 (11, 20, 3) (List.mem_of_getElem? (i := 10) rfl)).1, (h.1 (11, 20, 3) (List.mem_of_getElem? (i := 10) rfl)).2⟩
theorem s_5_4 {g : Shp} {m : Mem} (h : Sh g m) : m 5 4 = 12 ∧ gk g 12 = 20 ∧ gl g 12 = 3 := ⟨h.2.1 (5, 1, 4, 12) (List.mem_of_getElem? (i := 11) rfl), (h.1 (12, 20, 3) (List.mem_of_getElem? (i := 11) rfl)).1, (h.1 (12, 20, 3) (List.mem_of_getElem? (i := 11) rfl)).2⟩
theorem s_6_0 {g : Shp} {m : Mem} (h : Sh g m) : m 6 0 = 7 ∧ gk g 7 = 20 ∧ gl g 7 = 60 := ⟨h.2.1 (6, 7, 0, 7) (List.mem_of_getElem? (i := 12) rfl), (h.1 (7, 20, 60) (List.mem_of_getElem? (i := 6) rfl)).1, (h.1 (7, 20, 60) (List.mem_of_getElem? (i := 6) rfl)).2⟩
theorem s_6_1 {g : Shp} {m : Mem} (h : Sh g m) : m 6 1 = 8 ∧ gk g 8 = 21 ∧ gl g 8 = 60 := ⟨h.2.1 (6, 7, 1, 8) (List.mem_of_getElem? (i := 13) rfl), (h.1 (8, 21, 60) (List.mem_of_getElem? (i := 7) rfl)).1, (h.1 (8, 21, 60) (List.mem_of_getElem? (i := 7) rfl)).2⟩
theorem s_93_0 {g : Shp} {m : Mem} (h : Sh g m) : m 93 0 = 94 ∧ gk g 94 = 23 ∧ gl g 94 = 6 := ⟨h.2.1 (93, 5, 0, 94) (List.mem_of_getElem? (i := 14) rfl), (h.1 (94, 23, 6) (List.mem_of_getElem? (i := 93) rfl)).1, (h.1 (94, 23, 6) (List.mem_of_getElem? (i := 93) rfl)).2⟩
theorem s_143_0 {g : Shp} {m : Mem} (h : Sh g m) : m 143 0 = 144 ∧ gk g 144 = 20 ∧ gl g 144 = 3 := ⟨h.2.1 (143, 4, 0, 144) (List.mem_of_getElem? (i := 15) rfl), (h.1 (144, 20, 3) (List.mem_of_getElem? (i := 143) rfl)).1, (h.1 (144, 20, 3) (List.mem_of_getElem? (i := 143) rfl)).2⟩
theorem s_143_1 {g : Shp} {m : Mem} (h : Sh g m) : m 143 1 = 145 ∧ gk g 145 = 20 ∧ gl g 145 = 3 := ⟨h.2.1 (143, 4, 1, 145) (List.mem_of_getElem? (i := 16) rfl), (h.1 (145, 20, 3) (List.mem_of_getElem? (i := 144) rfl)).1, (h.1 (145, 20, 3) (List.mem_of_getElem? (i := 144) rfl)).2⟩
theorem s_143_2 {g : Shp} {m : Mem} (h : Sh g m) : m 143 2 = 146 ∧ gk g 146 = 20 ∧ gl g 146 = 3 := ⟨h.2.1 (143, 4, 2, 146) (List.mem_of_getElem? (i := 17) rfl), (h.1 (146, 20, 3) (List.mem_of_getElem? (i := 145) rfl)).1, (h.1 (146, 20, 3) (List.mem_of_getElem? (i := 145) rfl)).2⟩
theorem s_143_3 {g : Shp} {m : Mem} (h : Sh g m) : m 143 3 = 147 ∧ gk g 147 = 23 ∧ gl g 147 = 3 := ⟨h.2.1 (143, 4, 3, 147) (List.mem_of_getElem? (i := 18) rfl), (h.1 (147, 23, 3) (List.mem_of_getElem? (i := 146) rfl)).1, (h.1 (147, 23, 3) (List.mem_of_getElem? (i := 146) rfl)).2⟩
theorem s_143_4 {g : Shp} {m : Mem} (h : Sh g m) : m 143 4 = 148 ∧ gk g 148 = 10 ∧ gl g 148 = 0 := ⟨h.2.1 (143, 4, 4, 148) (List.mem_of_getElem? (i := 19) rfl), (h.1 (148, 10, 0) (List.mem_of_getElem? (i := 147) rfl)).1, (h.1 (148, 10, 0) (List.mem_of_getElem? (i := 147) rfl)).2⟩
theorem s_241_0 {g : Shp} {m : Mem} (h : Sh g m) : m 241 0 = 242 ∧ gk g 242 = 20 ∧ gl g 242 = 433 := ⟨h.2.1 (241, 12, 0, 242) (List.mem_of_getElem? (i := 20) rfl), (h.1 (242, 20, 433) (List.mem_of_getElem? (i := 241) rfl)).1, (h.1 (242, 20, 433) (List.mem_of_getElem? (i := 241) rfl)).2⟩
theorem s_241_1 {g : Shp} {m : Mem} (h : Sh g m) : m 241 1 = 243 ∧ gk g 243 = 20 ∧ gl g 243 = 433 := ⟨h.2.1 (241, 12, 1, 243) (List.mem_of_getElem? (i := 21) rfl), (h.1 (243, 20, 433) (List.mem_of_getElem? (i := 242) rfl)).1, (h.1 (243, 20, 433) (List.mem_of_getElem? (i := 242) rfl)).2⟩
theorem s_241_2 {g : Shp} {m : Mem} (h : Sh g m) : m 241 2 = 244 ∧ gk g 244 = 20 ∧ gl g 244 = 2598 := ⟨h.2.1 (241, 12, 2, 244) (List.mem_of_getElem? (i := 22) rfl), (h.1 (244, 20, 2598) (List.mem_of_getElem? (i := 243) rfl)).1, (h.1 (244, 20, 2598) (List.mem_of_getElem? (i := 243) rfl)).2⟩
theorem s_241_4 {g : Shp} {m : Mem} (h : Sh g m) : m 241 4 = 245 ∧ gk g 245 = 20 ∧ gl g 245 = 200 := ⟨h.2.1 (241, 12, 4, 245) (List.mem_of_getElem? (i := 23) rfl), (h.1 (245, 20, 200) (List.mem_of_getElem? (i := 244) rfl)).1, (h.1 (245, 20, 200) (List.mem_of_getElem? (i := 244) rfl)).2⟩
theorem s_241_7 {g : Shp} {m : Mem} (h : Sh g m) : m 241 7 = 246 ∧ gk g 246 = 20 ∧ gl g 246 = 3 := ⟨h.2.1 (241, 12, 7, 246) (List.mem_of_getElem? (i := 24) rfl), (h.1 (246, 20, 3) (List.mem_of_getElem? (i := 245) rfl)).1, (h.1 (246, 20, 3) (List.mem_of_getElem? (i := 245) rfl)).2⟩
theorem s_241_9 {g : Shp} {m : Mem} (h : Sh g m) : m 241 9 = 247 ∧ gk g 247 = 20 ∧ gl g 247 = 9 := ⟨h.2.1 (241, 12, 9, 247) (List.mem_of_getElem? (i := 25) rfl), (h.1 (247, 20, 9) (List.mem_of_getElem? (i := 246) rfl)).1, (h.1 (247, 20, 9) (List.mem_of_getElem? (i := 246) rfl)).2⟩
theorem s_241_11 {g : Shp} {m : Mem} (h : Sh g m) : m 241 11 = 248 ∧ gk g 248 = 20 ∧ gl g 248 = 3 := ⟨h.2.1 (241, 12, 11, 248) (List.mem_of_getElem? (i := 26) rfl), (h.1 (248, 20, 3) (List.mem_of_getElem? (i := 247) rfl)).1, (h.1 (248, 20, 3) (List.mem_of_getElem? (i := 247) rfl)).2⟩
theorem s_241_12 {g : Shp} {m : Mem} (h : Sh g m) : m 241 12 = 249 ∧ gk g 249 = 20 ∧ gl g 249 = 15 := ⟨h.2.1 (241, 12, 12, 249) (List.mem_of_getElem? (i := 27) rfl), (h.1 (249, 20, 15) (List.mem_of_getElem? (i := 248) rfl)).1, (h.1 (249, 20, 15) (List.mem_of_getElem? (i := 248) rfl)).2⟩
theorem s_241_13 {g : Shp} {m : Mem} (h : Sh g m) : m 241 13 = 250 ∧ gk g 250 = 20 ∧ gl g 250 = 3 := ⟨h.2.1 (241, 12, 13, 250) (List.mem_of_getElem? (i := 28) rfl), (h.1 (250, 20, 3) (List.mem_of_getElem? (i := 249) rfl)).1, (h.1 (250, 20, 3) (List.mem_of_getElem? (i := 249) rfl)).2⟩
theorem s_241_14 {g : Shp} {m : Mem} (h : Sh g m) : m 241 14 = 251 ∧ gk g 251 = 20 ∧ gl g 251 = 180 := ⟨h.2.1 (241, 12, 14, 251) (List.mem_of_getElem? (i := 29) rfl), (h.1 (251, 20, 180) (List.mem_of_getElem? (i := 250) rfl)).1, (h.1 (251, 20, 180) (List.mem_of_getElem? (i := 250) rfl)).2⟩
theorem s_241_19 {g : Shp} {m : Mem} (h : Sh g m) : m 241 19 = 252 ∧ gk g 252 = 20 ∧ gl g 252 = 3 := ⟨h.2.1 (241, 12, 19, 252) (List.mem_of_getElem? (i := 30) rfl), (h.1 (252, 20, 3) (List.mem_of_getElem? (i := 251) rfl)).1, (h.1 (252, 20, 3) (List.mem_of_getElem? (i := 251) rfl)).2⟩
theorem s_241_21 {g : Shp} {m : Mem} (h : Sh g m) : m 241 21 = 253 ∧ gk g 253 = 20 ∧ gl g 253 = 3 := ⟨h.2.1 (241, 12, 21, 253) (List.mem_of_getElem? (i := 31) rfl), (h.1 (253, 20, 3) (List.mem_of_getElem? (i := 252) rfl)).1, (h.1 (253, 20, 3) (List.mem_of_getElem? (i := 252) rfl)).2⟩
theorem s_241_22 {g : Shp} {m : Mem} (h : Sh g m) : m 241 22 = 254 ∧ gk g 254 = 20 ∧ gl g 254 = 15 := ⟨h.2.1 (241, 12, 22, 254) (List.mem_of_getElem? (i := 32) rfl), (h.1 (254, 20, 15) (List.mem_of_getElem? (i := 253) rfl)).1, (h.1 (254, 20, 15) (List.mem_of_getElem? (i := 253) rfl)).2⟩
theorem s_241_23 {g : Shp} {m : Mem} (h : Sh g m) : m 241 23 = 255 ∧ gk g 255 = 20 ∧ gl g 255 = 3 := ⟨h.2.1 (241, 12, 23, 255) (List.mem_of_getElem? (i := 33) rfl), (h.1 (255, 20, 3) (List.mem_of_getElem? (i := 254) rfl)).1, (h.1 (255, 20, 3) (List.mem_of_getElem? (i := 254) rfl)).2⟩
theorem s_241_24 {g : Shp} {m : Mem} (h : Sh g m) : m 241 24 = 256 ∧ gk g 256 = 20 ∧ gl g 256 = 180 := ⟨h.2.1 (241, 12, 24, 256) (List.mem_of_getElem? (i := 34) rfl), (h.1 (256, 20, 180) (List.mem_of_getElem? (i := 255) rfl)).1, (h.1 (256, 20, 180) (List.mem_of_getElem? (i := 255) rfl)).2⟩
theorem s_241_25 {g : Shp} {m : Mem} (h : Sh g m) : m 241 25 = 257 ∧ gk g 257 = 20 ∧ gl g 257 = 60 := ⟨h.2.1 (241, 12, 25, 257) (List.mem_of_getElem? (i := 35) rfl), (h.1 (257, 20, 60) (List.mem_of_getElem? (i := 256) rfl)).1, (h.1 (257, 20, 60) (List.mem_of_getElem? (i := 256) rfl)).2⟩
theorem s_241_26 {g : Shp} {m : Mem} (h : Sh g m) : m 241 26 = 258 ∧ gk g 258 = 21 ∧ gl g 258 = 60 := ⟨h.2.1 (241, 12, 26, 258) (List.mem_of_getElem? (i := 36) rfl), (h.1 (258, 21, 60) (List.mem_of_getElem? (i := 257) rfl)).1, (h.1 (258, 21, 60) (List.mem_of_getElem? (i := 257) rfl)).2⟩
theorem s_241_28 {g : Shp} {m : Mem} (h : Sh g m) : m 241 28 = 259 ∧ gk g 259 = 20 ∧ gl g 259 = 10633 := ⟨h.2.1 (241, 12, 28, 259) (List.mem_of_getElem? (i := 37) rfl), (h.1 (259, 20, 10633) (List.mem_of_getElem? (i := 258) rfl)).1, (h.1 (259, 20, 10633) (List.mem_of_getElem? (i := 258) rfl)).2⟩
theorem s_241_29 {g : Shp} {m : Mem} (h : Sh g m) : m 241 29 = 260 ∧ gk g 260 = 20 ∧ gl g 260 = 10290 := ⟨h.2.1 (241, 12, 29, 260) (List.mem_of_getElem? (i := 38) rfl), (h.1 (260, 20, 10290) (List.mem_of_getElem? (i := 259) rfl)).1, (h.1 (260, 20, 10290) (List.mem_of_getElem? (i := 259) rfl)).2⟩
theorem s_241_30 {g : Shp} {m : Mem} (h : Sh g m) : m 241 30 = 261 ∧ gk g 261 = 20 ∧ gl g 261 = 61 := ⟨h.2.1 (241, 12, 30, 261) (List.mem_of_getElem? (i := 39) rfl), (h.1 (261, 20, 61) (List.mem_of_getElem? (i := 260) rfl)).1, (h.1 (261, 20, 61) (List.mem_of_getElem? (i := 260) rfl)).2⟩
theorem s_241_31 {g : Shp} {m : Mem} (h : Sh g m) : m 241 31 = 262 ∧ gk g 262 = 21 ∧ gl g 262 = 61 := ⟨h.2.1 (241, 12, 31, 262) (List.mem_of_getElem? (i := 40) rfl), (h.1 (262, 21, 61) (List.mem_of_getElem? (i := 261) rfl)).1, (h.1 (262, 21, 61) (List.mem_of_getElem? (i := 261) rfl)).2⟩
theorem s_241_32 {g : Shp} {m : Mem} (h : Sh g m) : m 241 32 = 263 ∧ gk g 263 = 20 ∧ gl g 263 = 18 := ⟨h.2.1 (241, 12, 32, 263) (List.mem_of_getElem? (i := 41) rfl), (h.1 (263, 20, 18) (List.mem_of_getElem? (i := 262) rfl)).1, (h.1 (263, 20, 18) (List.mem_of_getElem? (i := 262) rfl)).2⟩
theorem s_241_33 {g : Shp} {m : Mem} (h : Sh g m) : m 241 33 = 264 ∧ gk g 264 = 20 ∧ gl g 264 = 18 := ⟨h.2.1 (241, 12, 33, 264) (List.mem_of_getElem? (i := 42) rfl), (h.1 (264, 20, 18) (List.mem_of_getElem? (i := 263) rfl)).1, (h.1 (264, 20, 18) (List.mem_of_getElem? (i := 263) rfl)).2⟩
theorem s_241_34 {g : Shp} {m : Mem} (h : Sh g m) : m 241 34 = 265 ∧ gk g 265 = 21 ∧ gl g 265 = 18 := ⟨h.2.1 (241, 12, 34, 265) (List.mem_of_getElem? (i := 43) rfl), (h.1 (265, 21, 18) (List.mem_of_getElem? (i := 264) rfl)).1, (h.1 (265, 21, 18) (List.mem_of_getElem? (i := 264) rfl)).2⟩
theorem s_241_37 {g : Shp} {m : Mem} (h : Sh g m) : m 241 37 = 266 ∧ gk g 266 = 20 ∧ gl g 266 = 3 := ⟨h.2.1 (241, 12, 37, 266) (List.mem_of_getElem? (i := 44) rfl), (h.1 (266, 20, 3) (List.mem_of_getElem? (i := 265) rfl)).1, (h.1 (266, 20, 3) (List.mem_of_getElem? (i := 265) rfl)).2⟩
theorem s_241_38 {g : Shp} {m : Mem} (h : Sh g m) : m 241 38 = 267 ∧ gk g 267 = 20 ∧ gl g 267 = 3 := ⟨h.2.1 (241, 12, 38, 267) (List.mem_of_getElem? (i := 45) rfl), (h.1 (267, 20, 3) (List.mem_of_getElem? (i := 266) rfl)).1, (h.1 (267, 20, 3) (List.mem_of_getElem? (i := 266) rfl)).2⟩
theorem sk_1 {g : Shp} {m : Mem} (h : Sh g m) : gk g 1 = 11 := (h.1 (1, 11, 0) (List.mem_of_getElem? (i := 0) rfl)).1
theorem sk_2 {g : Shp} {m : Mem} (h : Sh g m) : gk g 2 = 9 := (h.1 (2, 9, 0) (List.mem_of_getElem? (i := 1) rfl)).1
theorem sk_5 {g : Shp} {m : Mem} (h : Sh g m) : gk g 5 = 1 := (h.1 (5, 1, 0) (List.mem_of_getElem? (i := 4) rfl)).1
theorem sk_6 {g : Shp} {m : Mem} (h : Sh g m) : gk g 6 = 7 := (h.1 (6, 7, 0) (List.mem_of_getElem? (i := 5) rfl)).1
theorem sk_93 {g : Shp} {m : Mem} (h : Sh g m) : gk g 93 = 5 := (h.1 (93, 5, 0) (List.mem_of_getElem? (i := 92) rfl)).1
theorem sk_143 {g : Shp} {m : Mem} (h : Sh g m) : gk g 143 = 4 := (h.1 (143, 4, 0) (List.mem_of_getElem? (i := 142) rfl)).1
theorem sk_241 {g : Shp} {m : Mem} (h : Sh g m) : gk g 241 = 12 := (h.1 (241, 12, 0) (List.mem_of_getElem? (i := 240) rfl)).1
theorem u2_0 {g : Shp} {m : Mem} (h : Sh g m) {r q : Int} (hk : gk g r = 2) (hq : r + 1 = q) : m r 0 = q ∧ gk g q = 20 ∧ gl g q = 400 := by
  subst hq
  exact (((h.2.2.2 r).1 hk).1)
theorem u2_1 {g : Shp} {m : Mem} (h : Sh g m) {r q : Int} (hk : gk g r = 2) (hq : r + 2 = q) : m r 1 = q ∧ gk g q = 20 ∧ gl g q = 9 := by
  subst hq
  exact (((h.2.2.2 r).1 hk).2.1)
theorem u2_2 {g : Shp} {m : Mem} (h : Sh g m) {r q : Int} (hk : gk g r = 2) (hq : r + 3 = q) : m r 2 = q ∧ gk g q = 20 ∧ gl g q = 3 := by
  subst hq
  exact (((h.2.2.2 r).1 hk).2.2.1)
theorem u2_3 {g : Shp} {m : Mem} (h : Sh g m) {r q : Int} (hk : gk g r = 2) (hq : r + 4 = q) : m r 3 = q ∧ gk g q = 20 ∧ gl g q = 3 := by
  subst hq
  exact (((h.2.2.2 r).1 hk).2.2.2.1)
theorem u2_4 {g : Shp} {m : Mem} (h : Sh g m) {r q : Int} (hk : gk g r = 2) (hq : r + 5 = q) : m r 4 = q ∧ gk g q = 20 ∧ gl g q = 3 := by
  subst hq
  exact (((h.2.2.2 r).1 hk).2.2.2.2.1)
theorem u2_5 {g : Shp} {m : Mem} (h : Sh g m) {r q : Int} (hk : gk g r = 2) (hq : r + 6 = q) : m r 5 = q ∧ gk g q = 20 ∧ gl g q = 9 := by
  subst hq
  exact (((h.2.2.2 r).1 hk).2.2.2.2.2.1)
theorem u2_6 {g : Shp} {m : Mem} (h : Sh g m) {r q : Int} (hk : gk g r = 2) (hq : r + 7 = q) : m r 6 = q ∧ gk g q = 20 ∧ gl g q = 3 := by
  subst hq
  exact (((h.2.2.2 r).1 hk).2.2.2.2.2.2)
theorem u6_0 {g : Shp} {m : Mem} (h : Sh g m) {r q : Int} (hk : gk g r = 6) (hq : r + 1 = q) : m r 0 = q ∧ gk g q = 20 ∧ gl g q = 60 := by
  subst hq
  exact (((h.2.2.2 r).2.1 hk).1)
theorem u6_1 {g : Shp} {m : Mem} (h : Sh g m) {r q : Int} (hk : gk g r = 6) (hq : r + 2 = q) : m r 1 = q ∧ gk g q = 20 ∧ gl g q = 5 := by
  subst hq
  exact (((h.2.2.2 r).2.1 hk).2)
theorem u8_0 {g : Shp} {m : Mem} (h : Sh g m) {r q : Int} (hk : gk g r = 8) (hq : r + 1 = q) : m r 0 = q ∧ gk g q = 20 ∧ gl g q = 3 := by
  subst hq
  exact (((h.2.2.2 r).2.2.1 hk).1)
theorem u8_1 {g : Shp} {m : Mem} (h : Sh g m) {r q : Int} (hk : gk g r = 8) (hq : r + 2 = q) : m r 1 = q ∧ gk g q = 20 ∧ gl g q = 9 := by
  subst hq
  exact (((h.2.2.2 r).2.2.1 hk).2.1)
theorem u8_2 {g : Shp} {m : Mem} (h : Sh g m) {r q : Int} (hk : gk g r = 8) (hq : r + 3 = q) : m r 2 = q ∧ gk g q = 25 ∧ gl g q = 3 := by
  subst hq
  exact (((h.2.2.2 r).2.2.1 hk).2.2.1)
theorem u8_3 {g : Shp} {m : Mem} (h : Sh g m) {r q : Int} (hk : gk g r = 8) (hq : r + 4 = q) : m r 3 = q ∧ gk g q = 20 ∧ gl g q = 400 := by
  subst hq
  exact (((h.2.2.2 r).2.2.1 hk).2.2.2)
theorem u10_0 {g : Shp} {m : Mem} (h : Sh g m) {r q : Int} (hk : gk g r = 10) (hq : r + 1 = q) : m r 0 = q ∧ gk g q = 20 ∧ gl g q = 18 := by
  subst hq
  exact (((h.2.2.2 r).2.2.2.1 hk).1)
theorem u10_1 {g : Shp} {m : Mem} (h : Sh g m) {r q : Int} (hk : gk g r = 10) (hq : r + 2 = q) : m r 1 = q ∧ gk g q = 20 ∧ gl g q = 3 := by
  subst hq
  exact (((h.2.2.2 r).2.2.2.1 hk).2.1)
theorem u10_2 {g : Shp} {m : Mem} (h : Sh g m) {r q : Int} (hk : gk g r = 10) (hq : r + 3 = q) : m r 2 = q ∧ gk g q = 20 ∧ gl g q = 3 := by
  subst hq
  exact (((h.2.2.2 r).2.2.2.1 hk).2.2)
theorem u3_0 {g : Shp} {m : Mem} (h : Sh g m) {r q : Int} (hk : gk g r = 3) (hq : r + 1 = q) : m r 0 = q ∧ gk g q = 20 ∧ gl g q = 48 := by
  subst hq
  exact (((h.2.2.2 r).2.2.2.2.1 hk).1)
theorem u3_1 {g : Shp} {m : Mem} (h : Sh g m) {r q : Int} (hk : gk g r = 3) (hq : r + 2 = q) : m r 1 = q ∧ gk g q = 20 ∧ gl g q = 16 := by
  subst hq
  exact (((h.2.2.2 r).2.2.2.2.1 hk).2)
theorem a24 {g : Shp} {m : Mem} (h : Sh g m) {r i q : Int} (hk : gk g r = 24) (hi : 0 ≤ i ∧ i < 9) (hq : r + (29 + 4 * i) = q) : m r i = q ∧ gk g q = 10 := by
  subst hq
  exact ((h.2.2.2 r).2.2.2.2.2.1 hk).2 i hi.1 hi.2
theorem al24 {g : Shp} {m : Mem} (h : Sh g m) {r : Int} (hk : gk g r = 24) : gl g r = 9 := ((h.2.2.2 r).2.2.2.2.2.1 hk).1
theorem a25 {g : Shp} {m : Mem} (h : Sh g m) {r i q : Int} (hk : gk g r = 25) (hi : 0 ≤ i ∧ i < 3) (hq : r + (2 + 3 * i) = q) : m r i = q ∧ gk g q = 6 := by
  subst hq
  exact ((h.2.2.2 r).2.2.2.2.2.2.1 hk).2 i hi.1 hi.2
theorem al25 {g : Shp} {m : Mem} (h : Sh g m) {r : Int} (hk : gk g r = 25) : gl g r = 3 := ((h.2.2.2 r).2.2.2.2.2.2.1 hk).1
theorem a26 {g : Shp} {m : Mem} (h : Sh g m) {r i q : Int} (hk : gk g r = 26) (hi : 0 ≤ i ∧ i < 24) (hq : r + (4 + 3 * i) = q) : m r i = q ∧ gk g q = 3 := by
  subst hq
  exact ((h.2.2.2 r).2.2.2.2.2.2.2.1 hk).2 i hi.1 hi.2
theorem al26 {g : Shp} {m : Mem} (h : Sh g m) {r : Int} (hk : gk g r = 26) : gl g r = 24 := ((h.2.2.2 r).2.2.2.2.2.2.2.1 hk).1
theorem a23 {g : Shp} {m : Mem} (h : Sh g m) {r i : Int} (hk : gk g r = 23) (hi : 0 ≤ i ∧ i < gl g r) : gk g (m r i) = 2 := (h.2.2.2 r).2.2.2.2.2.2.2.2 hk i hi.1 hi.2
/-! the two texts of a method side by side -/
theorem ck_t {α : Type} {c : Prop} [Decidable c] {x : Option α} (h : c) : ck c x = x := if_pos h
theorem ck_c {α : Type} {c : Prop} [Decidable c] {x y : Option α} (h : c → x = y) : ck c x = ck c y := by
  unfold ck
  by_cases hc : c
  · rw [if_pos hc, if_pos hc]; exact h hc
  · rw [if_neg hc, if_neg hc]
theorem vv_c {α : Type} {v : Int} {X Y : Int → Option α} (h : ∀ y, y = v → X y = Y y) : vv v X = vv v Y := h v rfl
theorem vm_c {α : Type} {v : Mem} {X Y : Mem → Option α} (h : ∀ y, y = v → X y = Y y) : vm v X = vm v Y := h v rfl
theorem vg_c {α : Type} {v : Shp} {X Y : Shp → Option α} (h : ∀ y, y = v → X y = Y y) : vg v X = vg v Y := h v rfl
theorem bd2_q {α : Type} {a a' : Option (Int × Mem)} {X Y : Int → Mem → Option α} (ha : a = a') (h : ∀ r m, a = some (r, m) → X r m = Y r m) : bd2 a X = bd2 a' Y := by
  subst ha
  unfold bd2
  cases a with
  | none => rfl
  | some q => exact h q.1 q.2 rfl
theorem bd3_q {α : Type} {a a' : Option (Int × Shp × Mem)} {X Y : Int → Shp → Mem → Option α} (ha : a = a') (h : ∀ r g m, a = some (r, g, m) → X r g m = Y r g m) : bd3 a X = bd3 a' Y := by
  subst ha
  unfold bd3
  cases a with
  | none => rfl
  | some q => exact h q.1 q.2.1 q.2.2 rfl
theorem bdl_q {σ α : Type} {a a' : Option (Int × σ)} {X Y : Int → σ → Option α} (ha : a = a') (h : ∀ r s, a = some (r, s) → X r s = Y r s) : bdl a X = bdl a' Y := by
  subst ha
  unfold bdl
  cases a with
  | none => rfl
  | some q => exact h q.1 q.2 rfl
theorem if_c {α : Type} {c : Prop} [Decidable c] {a a' b b' : Option α} (h1 : c → a = a') (h2 : ¬ c → b = b') : (if c then a else b) = (if c then a' else b') := by
  by_cases hc : c
  · rw [if_pos hc, if_pos hc]; exact h1 hc
  · rw [if_neg hc, if_neg hc]; exact h2 hc
theorem iter_inv {σ : Type} {B : σ → Option (Int × σ)} (I : σ → Prop) (h2 : ∀ s c s', I s → B s = some (c, s') → I s') : ∀ n s c s', I s → iter B n s = some (c, s') → I s' := by
  intro n
  induction n with
  | zero => intro s c s' _ h; exact absurd h (by simp [iter])
  | succ n ih =>
    intro s c s' hs h
    unfold iter at h
    obtain ⟨⟨c1, s1⟩, h1, h3⟩ := bd_ok h
    have hs1 := h2 s c1 s1 hs h1
    by_cases hc : c1 = 0
    · rw [if_pos hc] at h3
      exact ih s1 c s' hs1 h3
    · rw [if_neg hc] at h3
      cases h3
      exact hs1
theorem iter_eq {σ : Type} {B E : σ → Option (Int × σ)} (I : σ → Prop) (h1 : ∀ s, I s → B s = E s) (h2 : ∀ s c s', I s → B s = some (c, s') → I s') : ∀ n s, I s → iter B n s = iter E n s := by
  intro n
  induction n with
  | zero => intro s _; rfl
  | succ n ih =>
    intro s hs
    unfold iter
    rw [← h1 s hs]
    cases hB : B s with
    | none => rfl
    | some q =>
      show (if q.1 = 0 then iter B n q.2 else some q) = (if q.1 = 0 then iter E n q.2 else some q)
      rw [ih q.2 (h2 s q.1 q.2 hs hB)]
theorem vv_k {α : Type} {v : Int} {X : Int → Option α} {R : Option α} (h : ∀ y, y = v → X y = R) : vv v X = R := h v rfl
theorem Sh.s {g : Shp} {m m' : Mem} (h : Sh g m) {r j v : Int} (he : m' = ms m r j v) (hn : ¬ isRs (gk g r) j) : Sh g m' := h.n (sameRefs.s he hn)
theorem Sh.cp {g : Shp} {m m' : Mem} (h : Sh g m) {s sp d dp n : Int} (he : m' = mcp m s sp d dp n) (hk : gk g d = 20) : Sh g m' := h.n (sameRefs.cp he hk)
/-- a floor of the past is set -/
theorem Sh.fl {g : Shp} {m m' : Mem} (h : Sh g m) {r j v : Int} (he : m' = ms m r j v) (hk : gk g r = 23) (hv : gk g v = 2) : Sh g m' := by
  subst he
  obtain ⟨hT, hR, hD, hU⟩ := h
  have h1 : gk g 1 = 11 := (hT (1, 11, 0) (by decide +kernel)).1
  have h5 : gk g 5 = 1 := (hT (5, 1, 0) (by decide +kernel)).1
  have ne : ∀ {a b : Int} {k : Nat}, gk g a = k → k ≠ 23 → ms m r j v a b = m a b := fun ha hb => ms_ne (fun q => hb (by rw [← ha, q.1, hk]))
  refine ⟨hT, fun q hq => ?_, ⟨?_, ?_, ?_⟩, fun a => ?_⟩
  · obtain ⟨a, b, c⟩ := SHR_ok q hq
    rw [ne (k := q.2.1) (hT _ c).1 (by omega)]
    exact hR q hq
  · rw [ne h1 (by decide)]; exact hD.1
  · rw [ne h1 (by decide)]; exact hD.2.1
  · rw [ne h5 (by decide)]; exact hD.2.2
  · obtain ⟨u2, u6, u8, u10, u3, u24, u25, u26, u23⟩ := hU a
    refine ⟨fun hk9 => by
      have q := u2 hk9
      refine ⟨⟨by rw [ne hk9 (by decide)]; exact q.1.1, q.1.2⟩, ⟨by rw [ne hk9 (by decide)]; exact q.2.1.1, q.2.1.2⟩, ⟨by rw [ne hk9 (by decide)]; exact q.2.2.1.1, q.2.2.1.2⟩, ⟨by rw [ne hk9 (by decide)]; exact q.2.2.2.1.1, q.2.2.2.1.2⟩, ⟨by rw [ne hk9 (by decide)]; exact q.2.2.2.2.1.1, q.2.2.2.2.1.2⟩, ⟨by rw [ne hk9 (by decide)]; exact q.2.2.2.2.2.1.1, q.2.2.2.2.2.1.2⟩, ⟨by rw [ne hk9 (by decide)]; exact q.2.2.2.2.2.2.1, q.2.2.2.2.2.2.2⟩⟩,
      fun hk9 => by
      have q := u6 hk9
      refine ⟨⟨by rw [ne hk9 (by decide)]; exact q.1.1, q.1.2⟩, ⟨by rw [ne hk9 (by decide)]; exact q.2.1, q.2.2⟩⟩,
      fun hk9 => by
      have q := u8 hk9
      refine ⟨⟨by rw [ne hk9 (by decide)]; exact q.1.1, q.1.2⟩, ⟨by rw [ne hk9 (by decide)]; exact q.2.1.1, q.2.1.2⟩, ⟨by rw [ne hk9 (by decide)]; exact q.2.2.1.1, q.2.2.1.2⟩, ⟨by rw [ne hk9 (by decide)]; exact q.2.2.2.1, q.2.2.2.2⟩⟩,
      fun hk9 => by
      have q := u10 hk9
      refine ⟨⟨by rw [ne hk9 (by decide)]; exact q.1.1, q.1.2⟩, ⟨by rw [ne hk9 (by decide)]; exact q.2.1.1, q.2.1.2⟩, ⟨by rw [ne hk9 (by decide)]; exact q.2.2.1, q.2.2.2⟩⟩,
      fun hk9 => by
      have q := u3 hk9
      refine ⟨⟨by rw [ne hk9 (by decide)]; exact q.1.1, q.1.2⟩, ⟨by rw [ne hk9 (by decide)]; exact q.2.1, q.2.2⟩⟩,
      fun hk9 => ⟨(u24 hk9).1, fun i h0 h1 => ⟨by rw [ne hk9 (by decide)]; exact ((u24 hk9).2 i h0 h1).1, ((u24 hk9).2 i h0 h1).2⟩⟩,
      fun hk9 => ⟨(u25 hk9).1, fun i h0 h1 => ⟨by rw [ne hk9 (by decide)]; exact ((u25 hk9).2 i h0 h1).1, ((u25 hk9).2 i h0 h1).2⟩⟩,
      fun hk9 => ⟨(u26 hk9).1, fun i h0 h1 => ⟨by rw [ne hk9 (by decide)]; exact ((u26 hk9).2 i h0 h1).1, ((u26 hk9).2 i h0 h1).2⟩⟩,
      fun hk9 i h0 h1 => by
      unfold ms
      split
      · exact hv
      · exact u23 hk9 i h0 h1⟩
/-- plan and draft are set -/
theorem Sh.pl {g : Shp} {m m' : Mem} (h : Sh g m) {j v : Int} (hj : j = 6 ∨ j = 7) (he : m' = ms m 1 j v) (hv : gk g v = 8) : Sh g m' := by
  subst he
  obtain ⟨hT, hR, hD, hU⟩ := h
  have h1 : gk g 1 = 11 := (hT (1, 11, 0) (by decide +kernel)).1
  have h5 : gk g 5 = 1 := (hT (5, 1, 0) (by decide +kernel)).1
  have ne : ∀ {a b : Int} {k : Nat}, gk g a = k → k ≠ 11 → ms m 1 j v a b = m a b := fun ha hb => ms_ne (fun q => hb (by rw [← ha, q.1, h1]))
  refine ⟨hT, fun q hq => ?_, ⟨?_, ?_, ?_⟩, fun a => ?_⟩
  · have hx : ¬ (q.1 = 1 ∧ q.2.2.1 = j) := by
      have hall : ∀ q ∈ SHR, ¬ (q.1 = 1 ∧ (q.2.2.1 = 6 ∨ q.2.2.1 = 7)) := by decide +kernel
      exact fun z => hall q hq ⟨z.1, by rw [z.2]; exact hj⟩
    rw [ms_ne hx]
    exact hR q hq
  · unfold ms; split
    · exact hv
    · exact hD.1
  · unfold ms; split
    · exact hv
    · exact hD.2.1
  · rw [ne h5 (by decide)]; exact hD.2.2
  · obtain ⟨u2, u6, u8, u10, u3, u24, u25, u26, u23⟩ := hU a
    refine ⟨fun hk9 => by
      have q := u2 hk9
      refine ⟨⟨by rw [ne hk9 (by decide)]; exact q.1.1, q.1.2⟩, ⟨by rw [ne hk9 (by decide)]; exact q.2.1.1, q.2.1.2⟩, ⟨by rw [ne hk9 (by decide)]; exact q.2.2.1.1, q.2.2.1.2⟩, ⟨by rw [ne hk9 (by decide)]; exact q.2.2.2.1.1, q.2.2.2.1.2⟩, ⟨by rw [ne hk9 (by decide)]; exact q.2.2.2.2.1.1, q.2.2.2.2.1.2⟩, ⟨by rw [ne hk9 (by decide)]; exact q.2.2.2.2.2.1.1, q.2.2.2.2.2.1.2⟩, ⟨by rw [ne hk9 (by decide)]; exact q.2.2.2.2.2.2.1, q.2.2.2.2.2.2.2⟩⟩,
      fun hk9 => by
      have q := u6 hk9
      refine ⟨⟨by rw [ne hk9 (by decide)]; exact q.1.1, q.1.2⟩, ⟨by rw [ne hk9 (by decide)]; exact q.2.1, q.2.2⟩⟩,
      fun hk9 => by
      have q := u8 hk9
      refine ⟨⟨by rw [ne hk9 (by decide)]; exact q.1.1, q.1.2⟩, ⟨by rw [ne hk9 (by decide)]; exact q.2.1.1, q.2.1.2⟩, ⟨by rw [ne hk9 (by decide)]; exact q.2.2.1.1, q.2.2.1.2⟩, ⟨by rw [ne hk9 (by decide)]; exact q.2.2.2.1, q.2.2.2.2⟩⟩,
      fun hk9 => by
      have q := u10 hk9
      refine ⟨⟨by rw [ne hk9 (by decide)]; exact q.1.1, q.1.2⟩, ⟨by rw [ne hk9 (by decide)]; exact q.2.1.1, q.2.1.2⟩, ⟨by rw [ne hk9 (by decide)]; exact q.2.2.1, q.2.2.2⟩⟩,
      fun hk9 => by
      have q := u3 hk9
      refine ⟨⟨by rw [ne hk9 (by decide)]; exact q.1.1, q.1.2⟩, ⟨by rw [ne hk9 (by decide)]; exact q.2.1, q.2.2⟩⟩,
      fun hk9 => ⟨(u24 hk9).1, fun i h0 h1 => ⟨by rw [ne hk9 (by decide)]; exact ((u24 hk9).2 i h0 h1).1, ((u24 hk9).2 i h0 h1).2⟩⟩,
      fun hk9 => ⟨(u25 hk9).1, fun i h0 h1 => ⟨by rw [ne hk9 (by decide)]; exact ((u25 hk9).2 i h0 h1).1, ((u25 hk9).2 i h0 h1).2⟩⟩,
      fun hk9 => ⟨(u26 hk9).1, fun i h0 h1 => ⟨by rw [ne hk9 (by decide)]; exact ((u26 hk9).2 i h0 h1).1, ((u26 hk9).2 i h0 h1).2⟩⟩,
      fun hk9 i h0 h1 => by rw [ne hk9 (by decide)]; exact u23 hk9 i h0 h1⟩
theorem a23l {g : Shp} {m : Mem} (h : Sh g m) {r i n : Int} (hk : gk g r = 23) (hl : gl g r = n) (hi : 0 ≤ i ∧ i < n) : gk g (m r i) = 2 := a23 h hk (by rw [hl]; exact hi)
