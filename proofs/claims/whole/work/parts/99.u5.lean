/-! THE LAW: the two constructors. -/
section INI2
variable {m : MM}
def RcL : List (Nat × Nat × Nat × Nat) := [(11, 6, 7, 0), (7, 5, 44, 0), (7, 4, 43, 0), (7, 3, 42, 0), (7, 2, 41, 0), (7, 1, 40, 0), (7, 0, 39, 0), (11, 5, 58, 0), (57, 2, 6, 2), (57, 1, 6, 1), (57, 0, 6, 0), (11, 4, 57, 0), (11, 3, 56, 0), (11, 2, 55, 0), (11, 1, 1, 0), (1, 4, 24, 0), (1, 3, 23, 0), (1, 2, 22, 0), (1, 1, 21, 0), (1, 0, 20, 0), (11, 0, 10, 0), (10, 4, 54, 0), (10, 3, 53, 0), (10, 2, 52, 0), (10, 1, 51, 0), (10, 0, 50, 0)]
def ZcL : List (Nat × Nat) := [(44, 16), (43, 16), (42, 16), (41, 16), (40, 256), (39, 8), (7, 6), (58, 4), (57, 3), (56, 3), (55, 4), (24, 28), (23, 400), (22, 400), (21, 400), (20, 400), (1, 6), (54, 6), (53, 6), (52, 40), (51, 40), (50, 40), (10, 7), (11, 11)]
def RmL : List (Nat × Nat × Nat × Nat) := [(12, 81, 130, 0), (12, 80, 129, 0), (12, 78, 128, 0), (12, 77, 127, 0), (12, 76, 126, 0), (12, 75, 125, 0), (12, 73, 124, 0), (12, 72, 123, 0), (12, 71, 122, 0), (12, 70, 121, 0), (12, 68, 120, 0), (12, 67, 119, 0), (12, 66, 118, 0), (12, 65, 117, 0), (12, 64, 116, 0), (12, 63, 115, 0), (12, 62, 114, 0), (12, 61, 113, 0), (12, 60, 112, 0), (12, 59, 111, 0), (12, 58, 110, 0), (12, 57, 109, 0), (12, 56, 108, 0), (12, 55, 107, 0), (12, 54, 106, 0), (12, 53, 105, 0), (12, 51, 104, 0), (12, 50, 103, 0), (12, 49, 102, 0), (12, 48, 101, 0), (12, 47, 100, 0), (12, 46, 99, 0), (12, 45, 98, 0), (12, 44, 97, 0), (12, 43, 96, 0), (12, 42, 95, 0), (12, 41, 94, 0), (12, 40, 93, 0), (12, 39, 92, 0), (12, 38, 91, 0), (12, 37, 90, 0), (12, 36, 89, 0), (12, 35, 88, 0), (12, 34, 87, 0), (12, 33, 86, 0), (12, 32, 85, 0), (12, 31, 84, 0), (12, 30, 83, 0), (12, 29, 82, 0), (12, 28, 81, 0), (12, 27, 80, 0), (12, 26, 79, 0), (12, 25, 78, 0), (12, 24, 77, 0), (12, 23, 76, 0), (12, 22, 75, 0), (12, 21, 74, 0), (12, 20, 73, 0), (12, 18, 72, 0), (12, 17, 71, 0), (12, 16, 70, 0), (12, 15, 69, 0), (12, 14, 68, 0), (12, 13, 67, 0), (12, 11, 66, 0), (12, 10, 65, 0), (12, 9, 64, 0), (12, 8, 63, 0), (12, 7, 62, 0), (12, 5, 61, 0), (12, 4, 60, 0), (12, 2, 59, 0), (11, 6, 7, 0), (7, 5, 44, 0), (7, 4, 43, 0), (7, 3, 42, 0), (7, 2, 41, 0), (7, 1, 40, 0), (7, 0, 39, 0), (11, 5, 58, 0), (57, 2, 6, 2), (57, 1, 6, 1), (57, 0, 6, 0), (11, 4, 57, 0), (11, 3, 56, 0), (11, 2, 55, 0), (11, 1, 1, 0), (1, 4, 24, 0), (1, 3, 23, 0), (1, 2, 22, 0), (1, 1, 21, 0), (1, 0, 20, 0), (11, 0, 10, 0), (10, 4, 54, 0), (10, 3, 53, 0), (10, 2, 52, 0), (10, 1, 51, 0), (10, 0, 50, 0)]
def ZmL : List (Nat × Nat) := [(130, 16), (129, 16), (128, 256), (127, 8), (126, 576), (125, 4), (124, 3), (123, 3), (122, 3), (121, 3), (120, 12), (119, 12), (118, 12), (117, 12), (116, 24), (115, 24), (114, 24), (113, 24), (112, 624), (111, 24), (110, 24), (109, 24), (108, 24), (107, 2000), (106, 2000), (105, 2000), (104, 7200), (103, 7200), (102, 7200), (101, 7200), (100, 7200), (99, 7200), (98, 2880), (97, 2880), (96, 2880), (95, 2880), (94, 288), (93, 288), (92, 288), (91, 288), (90, 48), (89, 48), (88, 48), (87, 48), (86, 48), (85, 48), (84, 48), (83, 48), (82, 180), (81, 180), (80, 3), (79, 3), (78, 3), (77, 3), (76, 3), (75, 3), (74, 3), (73, 3), (72, 4), (71, 4), (70, 4), (69, 4), (68, 4), (67, 4), (66, 28), (65, 400), (64, 400), (63, 400), (62, 400), (61, 6), (60, 6), (59, 40), (12, 82), (44, 16), (43, 16), (42, 16), (41, 16), (40, 256), (39, 8), (7, 6), (58, 4), (57, 3), (56, 3), (55, 4), (24, 28), (23, 400), (22, 400), (21, 400), (20, 400), (1, 6), (54, 6), (53, 6), (52, 40), (51, 40), (50, 40), (10, 7), (11, 11)]
def vC : Nat → Nat → Nat → Int := vpress 3 (vfill 24 28 fun _ _ _ => 0)
def vM : Nat → Nat → Nat → Int := vfill 66 28 (vrow 122 (-1) (vrow 121 1 vC))
theorem In0 : In [] [] 0 0 0 (fun _ _ _ => 0) m00 := ⟨fun q hq => absurd hq List.not_mem_nil, fun _ _ _ _ => rfl, fun q hq => absurd hq List.not_mem_nil, fun _ _ _ => ⟨rfl, fun _ => rfl⟩, rfl, fun _ _ _ => rfl, fun _ _ _ => rfl, Nat.le_refl _, Nat.le_refl _⟩
theorem In.le {R : List (Nat × Nat × Nat × Nat)} {Z : List (Nat × Nat)} {a b a' b' c : Nat} {v : Nat → Nat → Nat → Int} (h : In R Z a b c v m) (h1 : a ≤ a') (h2 : b ≤ b') : In R Z a' b' c v m := ⟨h.r, h.rn, h.z, h.zn, h.c6, h.n, h.l, by have := h.ga; omega, by have := h.gb; omega⟩
set_option maxRecDepth 10000 in
theorem init_c0 : Ev (f_X11_init (nW m00 11 11) 0) (fun q => q.1 = .inl none ∧ In RcL ZcL 100 10000 3 vC q.2) := by
  have h1 := In0.pW (K := 11) (n := 11) (by decide) (by decide)
  generalize nW m00 11 11 = m1 at h1 ⊢
  unfold f_X11_init
  rw [lt_eq, h1.gc (by decide) (by decide)]
  have h2 := h1.pW (K := 10) (n := 7) (by decide) (by decide)
  generalize nW m1 10 7 = m2 at h2 ⊢
  refine evV (Ψ := fun z => In [(10, 4, 54, 0), (10, 3, 53, 0), (10, 2, 52, 0), (10, 1, 51, 0), (10, 0, 50, 0)] [(54, 6), (53, 6), (52, 40), (51, 40), (50, 40), (10, 7), (11, 11)] 10 1000 0 (fun _ _ _ => 0) z) ?_ fun m3 h3 => ?_
  · unfold f_X10_init
    refine evA (n := 40) (by assumption) (by decide) fun _ _ => ?_
    refine evA (n := 40) (by assumption) (by decide) fun _ _ => ?_
    refine evA (n := 40) (by assumption) (by decide) fun _ _ => ?_
    refine evA (n := 6) (by assumption) (by decide) fun _ _ => ?_
    refine evA (n := 6) (by assumption) (by decide) fun _ _ => ?_
    exact ev_some ⟨rfl, In.le (by assumption) (by decide) (by decide)⟩
  rw [lt_eq]
  have h4 := h3.pR (K := 11) (s := 0) (K2 := 10) (i2 := 0) (by decide)
  generalize sR m3 11 0 0 (some (10, 0)) = m4 at h4 ⊢
  rw [lt_eq, h4.gc (by decide) (by decide)]
  have h5 := h4.pW (K := 1) (n := 6) (by decide) (by decide)
  generalize nW m4 1 6 = m5 at h5 ⊢
  refine evV (Ψ := fun z => In [(1, 4, 24, 0), (1, 3, 23, 0), (1, 2, 22, 0), (1, 1, 21, 0), (1, 0, 20, 0), (11, 0, 10, 0), (10, 4, 54, 0), (10, 3, 53, 0), (10, 2, 52, 0), (10, 1, 51, 0), (10, 0, 50, 0)] [(24, 28), (23, 400), (22, 400), (21, 400), (20, 400), (1, 6), (54, 6), (53, 6), (52, 40), (51, 40), (50, 40), (10, 7), (11, 11)] 30 5000 0 (vfill 24 28 fun _ _ _ => 0) z) ?_ fun m6 h6 => ?_
  · unfold f_X1_init
    refine evA (n := 400) (by assumption) (by decide) fun _ _ => ?_
    refine evA (n := 400) (by assumption) (by decide) fun _ _ => ?_
    refine evA (n := 400) (by assumption) (by decide) fun _ _ => ?_
    refine evA (n := 400) (by assumption) (by decide) fun _ _ => ?_
    refine evA (n := 28) (by assumption) (by decide) fun _ _ => ?_
    refine fill24 (by assumption) (by decide) (by decide) fun z hz => ?_
    exact ev_some ⟨rfl, hz.le (by decide) (by decide)⟩
  rw [lt_eq]
  have h7 := h6.pR (K := 11) (s := 1) (K2 := 1) (i2 := 0) (by decide)
  generalize sR m6 11 0 1 (some (1, 0)) = m7 at h7 ⊢
  refine evA (n := 4) (by assumption) (by decide) fun _ _ => ?_
  refine evA (n := 3) (by assumption) (by decide) fun _ _ => ?_
  refine evA (n := 3) (by assumption) (by decide) fun _ _ => ?_
  refine press3 (by assumption) (by decide) (by decide) (by decide) (by decide) fun z hz => ?_
  unfold j_X11_init_0_76
  refine evA (n := 4) hz (by decide) fun m8 h8 => ?_
  rw [lt_eq, h8.gc (by decide) (by decide)]
  have h9 := h8.pW (K := 7) (n := 6) (by decide) (by decide)
  generalize nW m8 7 6 = m9 at h9 ⊢
  refine evV (Ψ := fun z => In (RcL.tail) ZcL 80 8000 3 vC z) ?_ fun m10 h10 => ?_
  · unfold f_X7_init
    refine evA (n := 8) (by assumption) (by decide) fun _ _ => ?_
    refine evA (n := 256) (by assumption) (by decide) fun _ _ => ?_
    refine evA (n := 16) (by assumption) (by decide) fun _ _ => ?_
    refine evA (n := 16) (by assumption) (by decide) fun _ _ => ?_
    refine evA (n := 16) (by assumption) (by decide) fun _ _ => ?_
    refine evA (n := 16) (by assumption) (by decide) fun _ _ => ?_
    exact ev_some ⟨rfl, In.le (by assumption) (by decide) (by decide)⟩
  rw [lt_eq]
  exact ev_some ⟨rfl, (h10.pR (K := 11) (s := 6) (K2 := 7) (i2 := 0) (by decide)).le (by decide) (by decide)⟩
set_option maxRecDepth 10000 in
theorem init_m0 (h : In RcL ((12, 82) :: ZcL) 101 10082 3 vC m) : Ev (f_X12_init m 0) (fun q => q.1 = .inl none ∧ In RmL ZmL 300 500000 3 vM q.2) := by
  unfold f_X12_init
  refine evA (n := 40) (by assumption) (by decide) fun _ _ => ?_
  refine evA (n := 6) (by assumption) (by decide) fun _ _ => ?_
  refine evA (n := 6) (by assumption) (by decide) fun _ _ => ?_
  refine evA (n := 400) (by assumption) (by decide) fun _ _ => ?_
  refine evA (n := 400) (by assumption) (by decide) fun _ _ => ?_
  refine evA (n := 400) (by assumption) (by decide) fun _ _ => ?_
  refine evA (n := 400) (by assumption) (by decide) fun _ _ => ?_
  refine evA (n := 28) (by assumption) (by decide) fun _ _ => ?_
  refine evA (n := 4) (by assumption) (by decide) fun _ _ => ?_
  refine evA (n := 4) (by assumption) (by decide) fun _ _ => ?_
  refine evA (n := 4) (by assumption) (by decide) fun _ _ => ?_
  refine evA (n := 4) (by assumption) (by decide) fun _ _ => ?_
  refine evA (n := 4) (by assumption) (by decide) fun _ _ => ?_
  refine evA (n := 4) (by assumption) (by decide) fun _ _ => ?_
  refine evA (n := 3) (by assumption) (by decide) fun _ _ => ?_
  refine evA (n := 3) (by assumption) (by decide) fun _ _ => ?_
  refine evA (n := 3) (by assumption) (by decide) fun _ _ => ?_
  refine evA (n := 3) (by assumption) (by decide) fun _ _ => ?_
  refine evA (n := 3) (by assumption) (by decide) fun _ _ => ?_
  refine evA (n := 3) (by assumption) (by decide) fun _ _ => ?_
  refine evA (n := 3) (by assumption) (by decide) fun _ _ => ?_
  refine evA (n := 3) (by assumption) (by decide) fun _ _ => ?_
  refine evA (n := 180) (by assumption) (by decide) fun _ _ => ?_
  refine evA (n := 180) (by assumption) (by decide) fun _ _ => ?_
  refine evA (n := 48) (by assumption) (by decide) fun _ _ => ?_
  refine evA (n := 48) (by assumption) (by decide) fun _ _ => ?_
  refine evA (n := 48) (by assumption) (by decide) fun _ _ => ?_
  refine evA (n := 48) (by assumption) (by decide) fun _ _ => ?_
  refine evA (n := 48) (by assumption) (by decide) fun _ _ => ?_
  refine evA (n := 48) (by assumption) (by decide) fun _ _ => ?_
  refine evA (n := 48) (by assumption) (by decide) fun _ _ => ?_
  refine evA (n := 48) (by assumption) (by decide) fun _ _ => ?_
  refine evA (n := 288) (by assumption) (by decide) fun _ _ => ?_
  refine evA (n := 288) (by assumption) (by decide) fun _ _ => ?_
  refine evA (n := 288) (by assumption) (by decide) fun _ _ => ?_
  refine evA (n := 288) (by assumption) (by decide) fun _ _ => ?_
  refine evA (n := 2880) (by assumption) (by decide) fun _ _ => ?_
  refine evA (n := 2880) (by assumption) (by decide) fun _ _ => ?_
  refine evA (n := 2880) (by assumption) (by decide) fun _ _ => ?_
  refine evA (n := 2880) (by assumption) (by decide) fun _ _ => ?_
  refine evA (n := 7200) (by assumption) (by decide) fun _ _ => ?_
  refine evA (n := 7200) (by assumption) (by decide) fun _ _ => ?_
  refine evA (n := 7200) (by assumption) (by decide) fun _ _ => ?_
  refine evA (n := 7200) (by assumption) (by decide) fun _ _ => ?_
  refine evA (n := 7200) (by assumption) (by decide) fun _ _ => ?_
  refine evA (n := 7200) (by assumption) (by decide) fun _ _ => ?_
  refine evA (n := 2000) (by assumption) (by decide) fun _ _ => ?_
  refine evA (n := 2000) (by assumption) (by decide) fun _ _ => ?_
  refine evA (n := 2000) (by assumption) (by decide) fun _ _ => ?_
  refine evA (n := 24) (by assumption) (by decide) fun _ _ => ?_
  refine evA (n := 24) (by assumption) (by decide) fun _ _ => ?_
  refine evA (n := 24) (by assumption) (by decide) fun _ _ => ?_
  refine evA (n := 24) (by assumption) (by decide) fun _ _ => ?_
  refine evA (n := 624) (by assumption) (by decide) fun _ _ => ?_
  refine evA (n := 24) (by assumption) (by decide) fun _ _ => ?_
  refine evA (n := 24) (by assumption) (by decide) fun _ _ => ?_
  refine evA (n := 24) (by assumption) (by decide) fun _ _ => ?_
  refine evA (n := 24) (by assumption) (by decide) fun _ _ => ?_
  refine evA (n := 12) (by assumption) (by decide) fun _ _ => ?_
  refine evA (n := 12) (by assumption) (by decide) fun _ _ => ?_
  refine evA (n := 12) (by assumption) (by decide) fun _ _ => ?_
  refine evA (n := 12) (by assumption) (by decide) fun _ _ => ?_
  refine evR (by assumption) (by decide) fun _ _ => ?_
  refine evR (by assumption) (by decide) fun _ _ => ?_
  refine evA (n := 3) (by assumption) (by decide) fun _ _ => ?_
  refine evA (n := 3) (by assumption) (by decide) fun _ _ => ?_
  refine evA (n := 4) (by assumption) (by decide) fun _ _ => ?_
  refine evA (n := 576) (by assumption) (by decide) fun _ _ => ?_
  refine evA (n := 8) (by assumption) (by decide) fun _ _ => ?_
  refine evA (n := 256) (by assumption) (by decide) fun _ _ => ?_
  refine evA (n := 16) (by assumption) (by decide) fun _ _ => ?_
  refine evA (n := 16) (by assumption) (by decide) fun _ _ => ?_
  refine fill66 (by assumption) (by decide) (by decide) fun z hz => ?_
  exact ev_some ⟨rfl, hz.le (by decide) (by decide)⟩
end INI2
