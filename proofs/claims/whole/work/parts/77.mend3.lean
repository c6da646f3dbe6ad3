/-! CORRECT: what stands then. -/
section CORRECT
variable {N : Nat} {mc mm : MM} {b F n M Ln E : Nat}
/-- corrections speak of books that are there -/
def CI (mm : MM) : Prop := ∀ j : Nat, (j : Int) < gN mm 12 0 52 → gN mm 105 0 j < 2400 * gN mm 12 0 19
theorem CI.thr {mm : MM} (h : CI mm) (v : Int) : CI (sN mm 12 0 0 v) := fun j hj => by
  rw [gthr' _ _ (Or.inr (by decide))] at hj
  rw [gthr' _ _ (Or.inl (by decide)), gthr' _ _ (Or.inr (by decide))]
  exact h j hj
def CalJ (N : Nat) (mm : MM) (o1 o2 : MO) (xs : List Nat) : Prop := ∃ r mc' b mm', o1 = some (r, mc') ∧ o2 = some (.inl (some (aI b)), mm') ∧ Ans xs r (gN mm' 12 0 0) b ∧ RR (N + 1) mc' mm' ∧ (CI mm → CI mm')
theorem CalJ.bad {o1 o2 : MO} {xs : List Nat} {mc mm : MM} {e k : Nat} {b : Int} (h : RR N mc mm) (h1 : o1 = some (.inr e, bX mc)) (h2 : o2 = some (.inl (some (aI b)), sN mm 12 0 0 ((k + 1 : Nat) : Int))) (hx : xs[k]? = some e) : CalJ N mm o1 o2 xs :=
  ⟨_, _, _, _, h1, h2, Or.inr ⟨e, k, rfl, hx, gthr _ _⟩, ((h.thr _).bX).up (Nat.le_succ N), fun q => q.thr _⟩
theorem gN_k {m : MM} {K' i' s' : Nat} {v : Int} {K i s : Nat} (h : K ≠ K') : gN (sN m K' i' s' v) K i s = gN m K i s := by rw [gN_sN, if_neg (fun q => h q.1)]
set_option maxHeartbeats 8000000 in
theorem cor_asm (h : RR N mc mm) (hN : N ≤ 1900) (hb : (b : Int) < gN mm 12 0 19) (hB : RBk mc mm b F n M Ln E) {p k0 x ns ns' c kd : Nat} (hp : p < 2 * (F * n)) (hk0 : (k0 : Int) < gN mm 90 0 (16 * b + p))
    (hst : gN mm 108 0 (8 * b + fo F p) = 1 ∨ gN mm 108 0 (8 * b + fo F p) = 2) (hns : gN mm 111 0 (8 * b + fo F p) = ns)
    (g0 : (gN mm 110 0 (8 * b + fo F p) ≤ gN mm 112 0 (26 * (8 * b + fo F p) + (ns - 1)) ∧ ns' = ns) ∨ (gN mm 112 0 (26 * (8 * b + fo F p) + (ns - 1)) < gN mm 110 0 (8 * b + fo F p) ∧ ns' = ns + 1)) (hc : gN mm 12 0 52 = c) (hxn : (x : Int) < gN mm 12 0 6) (hkd28 : kd < 28) {m1 m9 t2 t9 : MM}
    (g7 : gN m1 2 (8 * b + fo F p) 7 = ns') (g26 : ns' = ns + 1 → gN m1 26 (8 * b + fo F p) ns = gN mm 110 0 (8 * b + fo F p))
    (g38 : ns' = ns + 1 → ∀ p' k : Nat, p' < 2 * (F * n) → fo F p' = fo F p → (k : Int) < gN mm 90 0 (16 * b + p') → gN m1 38 (24 * (16 * b + p') + ns) k = gN mc 38 (24 * (16 * b + p') + (ns - 1)) k)
    (g1 : ∀ K i s, ¬ (K = 2 ∧ i = 8 * b + fo F p ∧ s = 7) ∧ ¬ (K = 26 ∧ i = 8 * b + fo F p ∧ s = ns ∧ ns' = ns + 1) ∧ ¬ (K = 38 ∧ ns' = ns + 1 ∧ ∃ p', p' < 2 * (F * n) ∧ fo F p' = fo F p ∧ i = 24 * (16 * b + p') + ns) → eq3 mc m1 K i s)
    (gz : ∀ K i, gZ m1 K i = gZ mc K i) (gc : ∀ K, gC m1 K = gC mc K)
    (g9 : ∀ K i s, ¬ ((22 ≤ K ∧ K ≤ 24) ∧ i = 0) → eq3 m1 m9 K i s) (z91 : ∀ K i, gZ m9 K i = gZ m1 K i) (z92 : ∀ K, gC m9 K = gC m1 K)
    (g2 : ∀ K i s, ¬ (K = 12 ∧ s = 0) ∧ ¬ ((64 ≤ K ∧ K ≤ 66) ∧ i = 0) ∧ ¬ ((K = 100 ∨ K = 101) ∧ i = 0 ∧ s = 150 * (16 * b + p) + k0) ∧ ¬ (K = 111 ∧ i = 0 ∧ s = 8 * b + fo F p) ∧ ¬ (K = 112 ∧ i = 0 ∧ s = 26 * (8 * b + fo F p) + ns ∧ ns' = ns + 1) → eq3 mm t2 K i s)
    (z2 : ∀ K i, gZ t2 K i = gZ mm K i) (v0 : gN t2 12 0 0 = 0) (v100 : gN t2 100 0 (150 * (16 * b + p) + k0) = x) (v101 : gN t2 101 0 (150 * (16 * b + p) + k0) = 0) (v111 : gN t2 111 0 (8 * b + fo F p) = ns') (v112 : ns' = ns + 1 → gN t2 112 0 (26 * (8 * b + fo F p) + ns) = gN mm 110 0 (8 * b + fo F p))
    (k9 : RC m9 t9) (kq : RPc (sN t9 100 0 (150 * (16 * b + p) + k0) (x : Int))) (kv1 : ∀ K j, 62 ≤ K → K ≤ 66 → gN t9 K 0 j = gN t2 K 0 j) (kv2 : gN t9 12 0 6 = gN mm 12 0 6) (kv3 : ∀ j, gN t9 90 0 j = gN mm 90 0 j) (kv4 : ∀ j, j ≠ 150 * (16 * b + p) + k0 → gN t9 100 0 j = gN mm 100 0 j)
    (w7 : gN (sN (sN (sN m9 35 (16 * b + p) k0 (x : Int)) 36 (16 * b + p) k0 0) 38 (24 * (16 * b + p) + (ns' - 1)) k0 (kd : Int)) 2 (8 * b + fo F p) 7 = ns') :
    gN (sN (sN (sN (sN t2 105 0 c ((150 * (16 * b + p) + k0 : Nat) : Int)) 106 0 c ((ns' : Int) - 1)) 107 0 c (kd : Int)) 12 0 52 ((c : Int) + 1)) 12 0 0 = 0 ∧
    RR (N + 1) (sN (sN (sN m9 35 (16 * b + p) k0 (x : Int)) 36 (16 * b + p) k0 0) 38 (24 * (16 * b + p) + (ns' - 1)) k0 (kd : Int)) (sN (sN (sN (sN t2 105 0 c ((150 * (16 * b + p) + k0 : Nat) : Int)) 106 0 c ((ns' : Int) - 1)) 107 0 c (kd : Int)) 12 0 52 ((c : Int) + 1)) ∧
    (CI mm → CI (sN (sN (sN (sN t2 105 0 c ((150 * (16 * b + p) + k0 : Nat) : Int)) 106 0 c ((ns' : Int) - 1)) 107 0 c (kd : Int)) 12 0 52 ((c : Int) + 1))) := by
  have q0 := hB.hP.hb
  have q1 := hB.hP.hn
  have hns1 : 1 ≤ ns := by
    have := (hB.ff _ (fo_lt hB.hP.hF hp)).ns
    omega
  have hpn := (hB.pg p hp).pn
  have q4 := hB.hP.ml
  refine ⟨?_, ?_, ?_⟩
  · rw [gN_sN, if_neg (by decide), gN_k (by decide), gN_k (by decide), gN_k (by decide), v0]
  · refine cor_rel h hN hb hB (d := kd) (ns := ns) (ns' := ns') (c := c) hp hk0 hst hns ?_ hc hxn hkd28 (fun K i s hk => ?_) (fun K i s hk => ?_) (fun K i => ?_) (fun K i k hk => ?_) (fun K => ?_) w7 ?_ ?_ (fun q => ?_) (fun q => ?_) ?_ ?_ ?_ ?_ ?_ ?_ ?_ ?_ (fun q p' k hp' hfo hk hne => ?_) ?_ ?_
    · rcases g0 with z | z
      · exact Or.inl z.2
      · exact Or.inr ⟨z.2, z.1⟩
    · exact ((((g1 K i s ⟨hk.2.2.1, hk.2.2.2.1, hk.2.2.2.2.2⟩).tr (g9 K i s hk.1)).tr (eq3.sN (by omega))).tr (eq3.sN (by omega))).tr (eq3.sN (by omega))
    · exact ((((g2 K i s (by omega)).tr (eq3.sN (by omega))).tr (eq3.sN (by omega))).tr (eq3.sN (by omega))).tr (eq3.sN (by omega))
    · show gZ m9 K i = gZ mc K i
      rw [z91, gz]
    · show gZ t2 K i = some k
      rw [z2]; exact hk
    · show gC m9 K = gC mc K
      rw [z92, gc]
    · rw [gN_k (by first | decide | omega), gN_k (by first | decide | omega), gN_k (by first | decide | omega), gN_k (by first | decide | omega), v111]
    · rw [gN_sN, if_pos ⟨rfl, rfl, rfl⟩]
    · rw [gN_k (by first | decide | omega), gN_k (by first | decide | omega), gN_k (by first | decide | omega), (g9 26 _ ns (by omega)).1, g26 q]
    · rw [gN_k (by first | decide | omega), gN_k (by first | decide | omega), gN_k (by first | decide | omega), gN_k (by first | decide | omega), v112 q]
    · rw [gN_k (by first | decide | omega), gN_k (by first | decide | omega), gN_sN, if_pos ⟨rfl, rfl, rfl⟩]
    · rw [gN_k (by first | decide | omega), gN_sN, if_pos ⟨rfl, rfl, rfl⟩]
    · rw [gN_k (by first | decide | omega), gN_k (by first | decide | omega), gN_k (by first | decide | omega), gN_k (by first | decide | omega), v100]
    · rw [gN_k (by first | decide | omega), gN_k (by first | decide | omega), gN_k (by first | decide | omega), gN_k (by first | decide | omega), v101]
    · rw [gN_k (by first | decide | omega), gN_k (by first | decide | omega), gN_k (by first | decide | omega), gN_sN, if_pos ⟨rfl, rfl, rfl⟩]
    · rw [gN_k (by first | decide | omega), gN_k (by first | decide | omega), gN_sN, if_pos ⟨rfl, rfl, rfl⟩]; omega
    · rw [gN_k (by first | decide | omega), gN_sN, if_pos ⟨rfl, rfl, rfl⟩]
    · rw [gN_sN, if_pos ⟨rfl, rfl, rfl⟩]
    · rw [gN_sN, if_neg (fun z => hne (by have := z.2.1; have := z.2.2; omega)), gN_k (by first | decide | omega), gN_k (by first | decide | omega), (g9 38 _ k (by omega)).1, g38 q p' k hp' hfo hk]
    · exact k9.keep (by rw [gN_k (by first | decide | omega), gN_k (by first | decide | omega), gN_k (by first | decide | omega)]) (by rw [gN_sN, if_neg (by decide), gN_k (by decide), gN_k (by decide), gN_k (by decide), (g2 12 0 6 (by omega)).1, kv2]) (fun K h1 h2 k => by rw [gN_k (by first | decide | omega), gN_k (by first | decide | omega), gN_k (by first | decide | omega)]) (fun K h1 h2 k => by rw [gN_k (by first | decide | omega), gN_k (by first | decide | omega), gN_k (by first | decide | omega), gN_k (by first | decide | omega), kv1 K k h1 h2])
    · refine kq.eqN (fun K j hK => ?_) ?_
      · rw [gN_k (by first | decide | omega), gN_k (by first | decide | omega), gN_k (by first | decide | omega), gN_k (by first | decide | omega), gN_sN]
        by_cases z : K = 100 ∧ j = 150 * (16 * b + p) + k0
        · rw [if_pos ⟨z.1, rfl, z.2⟩, z.1, z.2, v100]
        · rw [if_neg (by omega)]
          rcases hK with q | q | q
          · exact (kv1 K j (by omega) (by omega)).symm
          · rw [q, (g2 90 0 j (by omega)).1, kv3]
          · rw [q, (g2 100 0 j (by omega)).1, kv4 j (by omega)]
      · rw [gN_sN, if_neg (by decide), gN_k (by decide), gN_k (by decide), gN_k (by decide), (g2 12 0 6 (by omega)).1, gN_k (by decide), kv2]
  · intro hCI j hj
    rw [gN_sN, if_pos ⟨rfl, rfl, rfl⟩] at hj
    rw [gN_k (by decide), gN_k (by decide), gN_k (by decide), gN_sN (c := 19), if_neg (by omega), gN_sN (c := 19), if_neg (by omega), gN_sN (c := 19), if_neg (by omega), gN_sN (c := 19), if_neg (by omega), (g2 12 0 19 (by omega)).1, gN_sN]
    by_cases q : j = c
    · rw [if_pos ⟨rfl, rfl, q⟩]; omega
    · rw [if_neg (fun z => q z.2.2), (g2 105 0 j (by omega)).1]
      exact hCI j (by omega)
end CORRECT
