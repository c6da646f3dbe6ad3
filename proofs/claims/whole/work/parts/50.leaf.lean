/-! ONE BOOK ALONE; calls that change leaves: lay, exchange, cancel, bind. -/
/-- a call that answers a number -/
def CalI (N : Nat) (o1 o2 : MO) (xs : List Nat) : Prop := ∃ r mc' b mm', o1 = some (r, mc') ∧ o2 = some (.inl (some (aI b)), mm') ∧ Ans xs r (gN mm' 12 0 0) b ∧ RR (N + 1) mc' mm'
/-- a call that answers nothing -/
def AnsV (xs : List Nat) (r : RV) (t : Int) : Prop := (r = .inl none ∧ t = 0) ∨ ∃ e k : Nat, r = .inr e ∧ xs[k]? = some e ∧ t = ((k + 1 : Nat) : Int)
def CalV (N : Nat) (o1 o2 : MO) (xs : List Nat) : Prop := ∃ r mc' mm', o1 = some (r, mc') ∧ o2 = some (.inl none, mm') ∧ AnsV xs r (gN mm' 12 0 0) ∧ RR (N + 1) mc' mm'
theorem RR.up {N N' : Nat} {mc mm : MM} (h : RR N mc mm) (hN : N ≤ N') : RR N' mc mm :=
  h.scr hN (fun _ _ => rfl) (fun _ _ _ q => q) (fun _ => rfl) (fun _ _ _ _ _ => eq3.rf) (fun _ _ _ _ _ => eq3.rf)
theorem Qry.cal {N : Nat} {o1 o2 : MO} {xs : List Nat} {mc mm : MM} (q : Qry o1 o2 xs mc mm) (h : RR N mc mm) : CalI N o1 o2 xs := by
  obtain ⟨r, b, t, h1, h2, h3⟩ := q
  have h4 := (h.thr t).up (Nat.le_succ N)
  rcases h1 with h1 | h1
  · exact ⟨r, mc, b, _, h1, h2, by rw [gthr]; exact h3, h4⟩
  · exact ⟨r, bX mc, b, _, h1, h2, by rw [gthr]; exact h3, h4.bX⟩
theorem CalV.bad {N : Nat} {o1 o2 : MO} {xs : List Nat} {mc mm : MM} {e k : Nat} (h : RR N mc mm) (h1 : o1 = some (.inr e, bX mc)) (h2 : o2 = some (.inl none, sN mm 12 0 0 ((k + 1 : Nat) : Int))) (hx : xs[k]? = some e) : CalV N o1 o2 xs :=
  ⟨_, _, _, h1, h2, Or.inr ⟨e, k, rfl, hx, gthr _ _⟩, ((h.thr _).up (Nat.le_succ N)).bX⟩
theorem CalI.bad {N : Nat} {o1 o2 : MO} {xs : List Nat} {mc mm : MM} {e k : Nat} {b : Int} (h : RR N mc mm) (h1 : o1 = some (.inr e, bX mc)) (h2 : o2 = some (.inl (some (aI b)), sN mm 12 0 0 ((k + 1 : Nat) : Int))) (hx : xs[k]? = some e) : CalI N o1 o2 xs :=
  ⟨_, _, _, _, h1, h2, Or.inr ⟨e, k, rfl, hx, gthr _ _⟩, ((h.thr _).up (Nat.le_succ N)).bX⟩
/-- the cells of a book -/
def CBk (b K i : Nat) : Prop := ((K = 0 ∨ K = 9 ∨ (13 ≤ K ∧ K ≤ 17) ∨ (45 ≤ K ∧ K ≤ 49)) ∧ i = b) ∨ ((K = 2 ∨ K = 19 ∨ K = 25 ∨ K = 26) ∧ 8 * b ≤ i ∧ i < 8 * b + 8) ∨ ((K = 4 ∨ K = 5 ∨ (27 ≤ K ∧ K ≤ 37)) ∧ 16 * b ≤ i ∧ i < 16 * b + 16) ∨ (K = 8 ∧ 4 * b ≤ i ∧ i < 4 * b + 4) ∨ (K = 18 ∧ 24 * b ≤ i ∧ i < 24 * b + 24) ∨ (K = 38 ∧ 384 * b ≤ i ∧ i < 384 * b + 384)
def MBk (b K s : Nat) : Prop := ((78 ≤ K ∧ K ≤ 80) ∧ s = b) ∨ ((K = 81 ∨ K = 82) ∧ 60 * b ≤ s ∧ s < 60 * b + 60) ∨ ((83 ≤ K ∧ K ≤ 90) ∧ 16 * b ≤ s ∧ s < 16 * b + 16) ∨ ((91 ≤ K ∧ K ≤ 94) ∧ 96 * b ≤ s ∧ s < 96 * b + 96) ∨ ((95 ≤ K ∧ K ≤ 98) ∧ 960 * b ≤ s ∧ s < 960 * b + 960) ∨ ((99 ≤ K ∧ K ≤ 104) ∧ 2400 * b ≤ s ∧ s < 2400 * b + 2400) ∨ (((108 ≤ K ∧ K ≤ 111) ∨ (113 ≤ K ∧ K ≤ 116)) ∧ 8 * b ≤ s ∧ s < 8 * b + 8) ∨ (K = 112 ∧ 208 * b ≤ s ∧ s < 208 * b + 208) ∨ ((117 ≤ K ∧ K ≤ 120) ∧ 4 * b ≤ s ∧ s < 4 * b + 4) ∨ (K = 126 ∧ 192 * b ≤ s ∧ s < 192 * b + 192)
theorem CBk.a {b K i : Nat} (h : K = 0 ∨ K = 9 ∨ (13 ≤ K ∧ K ≤ 17) ∨ (45 ≤ K ∧ K ≤ 49)) (h2 : i = b) : CBk b K i := Or.inl ⟨h, h2⟩
theorem CBk.b {b K i : Nat} (h : K = 2 ∨ K = 19 ∨ K = 25 ∨ K = 26) (h2 : 8 * b ≤ i ∧ i < 8 * b + 8) : CBk b K i := Or.inr (Or.inl ⟨h, h2⟩)
theorem CBk.c {b K i : Nat} (h : K = 4 ∨ K = 5 ∨ (27 ≤ K ∧ K ≤ 37)) (h2 : 16 * b ≤ i ∧ i < 16 * b + 16) : CBk b K i := Or.inr (Or.inr (Or.inl ⟨h, h2⟩))
theorem CBk.d {b K i : Nat} (h : K = 8) (h2 : 4 * b ≤ i ∧ i < 4 * b + 4) : CBk b K i := Or.inr (Or.inr (Or.inr (Or.inl ⟨h, h2⟩)))
theorem CBk.e {b K i : Nat} (h : K = 18) (h2 : 24 * b ≤ i ∧ i < 24 * b + 24) : CBk b K i := Or.inr (Or.inr (Or.inr (Or.inr (Or.inl ⟨h, h2⟩))))
theorem CBk.f {b K i : Nat} (h : K = 38) (h2 : 384 * b ≤ i ∧ i < 384 * b + 384) : CBk b K i := Or.inr (Or.inr (Or.inr (Or.inr (Or.inr ⟨h, h2⟩))))
theorem CBk.bk {b K i : Nat} (h : CBk b K i) : isBK K := by
  unfold isBK
  rcases h with ⟨h1, h2⟩ | ⟨h1, h2⟩ | ⟨h1, h2⟩ | ⟨h1, h2⟩ | ⟨h1, h2⟩ | ⟨h1, h2⟩ <;> omega
theorem CBk.dj {b b0 K i : Nat} (h : CBk b K i) (hb : b ≠ b0) : ¬ CBk b0 K i := by
  intro h'
  rcases h with ⟨h1, h2⟩ | ⟨h1, h2⟩ | ⟨h1, h2⟩ | ⟨h1, h2⟩ | ⟨h1, h2⟩ | ⟨h1, h2⟩ <;> rcases h' with ⟨g1, g2⟩ | ⟨g1, g2⟩ | ⟨g1, g2⟩ | ⟨g1, g2⟩ | ⟨g1, g2⟩ | ⟨g1, g2⟩ <;> omega
theorem MBk.a {b K s : Nat} (h : 78 ≤ K ∧ K ≤ 80) (h2 : s = b) : MBk b K s := Or.inl ⟨h, h2⟩
theorem MBk.b {b K s : Nat} (h : K = 81 ∨ K = 82) (h2 : 60 * b ≤ s ∧ s < 60 * b + 60) : MBk b K s := Or.inr (Or.inl ⟨h, h2⟩)
theorem MBk.c {b K s : Nat} (h : 83 ≤ K ∧ K ≤ 90) (h2 : 16 * b ≤ s ∧ s < 16 * b + 16) : MBk b K s := Or.inr (Or.inr (Or.inl ⟨h, h2⟩))
theorem MBk.d {b K s : Nat} (h : 91 ≤ K ∧ K ≤ 94) (h2 : 96 * b ≤ s ∧ s < 96 * b + 96) : MBk b K s := Or.inr (Or.inr (Or.inr (Or.inl ⟨h, h2⟩)))
theorem MBk.e {b K s : Nat} (h : 95 ≤ K ∧ K ≤ 98) (h2 : 960 * b ≤ s ∧ s < 960 * b + 960) : MBk b K s := Or.inr (Or.inr (Or.inr (Or.inr (Or.inl ⟨h, h2⟩))))
theorem MBk.f {b K s : Nat} (h : 99 ≤ K ∧ K ≤ 104) (h2 : 2400 * b ≤ s ∧ s < 2400 * b + 2400) : MBk b K s := Or.inr (Or.inr (Or.inr (Or.inr (Or.inr (Or.inl ⟨h, h2⟩)))))
theorem MBk.g {b K s : Nat} (h : (108 ≤ K ∧ K ≤ 111) ∨ (113 ≤ K ∧ K ≤ 116)) (h2 : 8 * b ≤ s ∧ s < 8 * b + 8) : MBk b K s := Or.inr (Or.inr (Or.inr (Or.inr (Or.inr (Or.inr (Or.inl ⟨h, h2⟩))))))
theorem MBk.h {b K s : Nat} (h : K = 112) (h2 : 208 * b ≤ s ∧ s < 208 * b + 208) : MBk b K s := Or.inr (Or.inr (Or.inr (Or.inr (Or.inr (Or.inr (Or.inr (Or.inl ⟨h, h2⟩)))))))
theorem MBk.i {b K s : Nat} (h : 117 ≤ K ∧ K ≤ 120) (h2 : 4 * b ≤ s ∧ s < 4 * b + 4) : MBk b K s := Or.inr (Or.inr (Or.inr (Or.inr (Or.inr (Or.inr (Or.inr (Or.inr (Or.inl ⟨h, h2⟩))))))))
theorem MBk.j {b K s : Nat} (h : K = 126) (h2 : 192 * b ≤ s ∧ s < 192 * b + 192) : MBk b K s := Or.inr (Or.inr (Or.inr (Or.inr (Or.inr (Or.inr (Or.inr (Or.inr (Or.inr ⟨h, h2⟩))))))))
theorem MBk.bk {b K s : Nat} (h : MBk b K s) : 78 ≤ K ∧ K ≤ 126 := by
  rcases h with ⟨h1, h2⟩ | ⟨h1, h2⟩ | ⟨h1, h2⟩ | ⟨h1, h2⟩ | ⟨h1, h2⟩ | ⟨h1, h2⟩ | ⟨h1, h2⟩ | ⟨h1, h2⟩ | ⟨h1, h2⟩ | ⟨h1, h2⟩ <;> omega
theorem MBk.dj {b b0 K s : Nat} (h : MBk b K s) (hb : b ≠ b0) : ¬ MBk b0 K s := by
  intro h'
  rcases h with ⟨h1, h2⟩ | ⟨h1, h2⟩ | ⟨h1, h2⟩ | ⟨h1, h2⟩ | ⟨h1, h2⟩ | ⟨h1, h2⟩ | ⟨h1, h2⟩ | ⟨h1, h2⟩ | ⟨h1, h2⟩ | ⟨h1, h2⟩ <;> rcases h' with ⟨g1, g2⟩ | ⟨g1, g2⟩ | ⟨g1, g2⟩ | ⟨g1, g2⟩ | ⟨g1, g2⟩ | ⟨g1, g2⟩ | ⟨g1, g2⟩ | ⟨g1, g2⟩ | ⟨g1, g2⟩ | ⟨g1, g2⟩ <;> omega
-- the parts of a book lie in its cells
theorem CBS.ck {b K i s : Nat} (h : CBS b K i s) : K = 56 ∨ CBk b K i := by
  rcases h with h | h | ⟨h, h2⟩ | h | h | h | h | h | h
  · exact Or.inl h.1
  · exact Or.inr (CBk.a (by omega) h.2.1)
  · exact Or.inr (CBk.a (by omega) h2.1)
  · exact Or.inr (CBk.c (by omega) (by omega))
  · exact Or.inr (CBk.c (by omega) (by omega))
  · exact Or.inr (CBk.c (by omega) (by omega))
  · exact Or.inr (CBk.b (by omega) (by omega))
  · exact Or.inr (CBk.b (by omega) (by omega))
  · exact Or.inr (CBk.d (by omega) (by omega))
theorem CTx.ck {b K i s : Nat} (h : CTx b K i s) : ((K = 53 ∨ K = 54) ∧ i = 0) ∨ CBk b K i := by
  rcases h with h | h | h | h | h
  · exact Or.inr (CBk.a (by omega) h.2.1)
  · exact Or.inr (CBk.a (by omega) h.2.2)
  · exact Or.inr (CBk.a (by omega) h.2.1)
  · exact Or.inr (CBk.a (by omega) h.2)
  · exact Or.inl h
theorem MTx.mk {b K i s : Nat} (h : MTx b K i s) : (K = 12 ∧ i = 0 ∧ s = 3) ∨ ((K = 60 ∨ K = 61) ∧ i = 0) ∨ (i = 0 ∧ MBk b K s) := by
  rcases h with h | h | h | h
  · exact Or.inr (Or.inr ⟨h.2.1, MBk.a (by omega) h.2.2⟩)
  · exact Or.inr (Or.inr ⟨h.2.1, MBk.b h.1 h.2.2⟩)
  · exact Or.inl h
  · exact Or.inr (Or.inl h)
theorem CPg.ck {b p K i s : Nat} (hp : p < 16) (h : CPg b (16 * b + p) K i s) : CBk b K i := by
  rcases h with h | h | h | h
  · exact CBk.c (by omega) (by omega)
  · exact CBk.c (by omega) (by omega)
  · exact CBk.c (by omega) (by omega)
  · exact CBk.a (by omega) h.2.2
theorem MPg.mk {b p K i s : Nat} (hp : p < 16) (h : MPg b (16 * b + p) K i s) : i = 0 ∧ MBk b K s := by
  rcases h with h | h | h | h
  · exact ⟨h.2.2.1, MBk.c (by omega) (by omega)⟩
  · exact ⟨h.2.1, MBk.a (by omega) h.2.2⟩
  · exact ⟨h.2.2.1, MBk.d (by omega) (by omega)⟩
  · exact ⟨h.2.2.1, MBk.e (by omega) (by omega)⟩
theorem CPl.ck {b p K i s : Nat} (hp : p < 16) (h : CPl (16 * b + p) K i s) : CBk b K i := CBk.c (by unfold CPl at h; omega) (by unfold CPl at h; omega)
theorem MPl.mk {b p K i s : Nat} (hp : p < 16) (h : MPl (16 * b + p) K i s) : i = 0 ∧ MBk b K s := by
  rcases h with h | h
  · exact ⟨h.2.1, MBk.c (by omega) (by omega)⟩
  · exact ⟨h.2.2.1, MBk.f (by omega) (by omega)⟩
theorem CFo.ck {b f K i s : Nat} (hf : f < 8) (h : CFo (8 * b + f) K i s) : CBk b K i := by
  rcases h with h | h
  · exact CBk.b (by omega) (by omega)
  · exact CBk.b (by omega) (by omega)
theorem MFo.mk {b f K i s : Nat} (hf : f < 8) (h : MFo (8 * b + f) K i s) : i = 0 ∧ MBk b K s := by
  rcases h with h | h
  · exact ⟨h.2.1, MBk.g (by omega) (by omega)⟩
  · exact ⟨h.2.1, MBk.h h.1 (by omega)⟩
theorem CPn.ck {b p f K i s : Nat} (hp : p < 16) (hf : f < 8) (h : CPn (16 * b + p) (8 * b + f) K i s) : CBk b K i := by
  rcases h with h | h
  · exact CBk.b (by omega) (by omega)
  · exact CBk.f h.1 (by omega)
theorem MPn.mk {b p f K i s : Nat} (hp : p < 16) (hf : f < 8) (h : MPn (16 * b + p) (8 * b + f) K i s) : (K = 12 ∧ i = 0 ∧ s = 52) ∨ (105 ≤ K ∧ K ≤ 107 ∧ i = 0) ∨ (i = 0 ∧ MBk b K s) := by
  rcases h with h | h | h | h | h
  · exact Or.inr (Or.inr ⟨h.2.1, MBk.g (by omega) (by omega)⟩)
  · exact Or.inr (Or.inr ⟨h.2.1, MBk.c (by omega) (by omega)⟩)
  · exact Or.inr (Or.inr ⟨h.2.1, MBk.f (by omega) (by omega)⟩)
  · exact Or.inl h
  · exact Or.inr (Or.inl h)
theorem CSe.ck {b f K i s : Nat} (hf : f < 8) (h : CSe b f K i s) : CBk b K i := CBk.b (by unfold CSe at h; omega) (by unfold CSe at h; omega)
theorem MSe.mk {b f K i s : Nat} (hf : f < 8) (h : MSe b f K i s) : i = 0 ∧ MBk b K s := by
  rcases h with h | h | h
  · exact ⟨h.2.1, MBk.g (by omega) (by omega)⟩
  · exact ⟨h.2.1, MBk.c (by omega) (by omega)⟩
  · exact ⟨h.2.1, MBk.f (by omega) (by omega)⟩
theorem CSh.ck {b s0 K i s : Nat} (hs : s0 < 4) (h : CSh b s0 K i s) : CBk b K i := CBk.d h.1 (by unfold CSh at h; omega)
theorem MSh.mk {b s0 K i s : Nat} (hs : s0 < 4) (h : MSh b s0 K i s) : i = 0 ∧ MBk b K s := by
  rcases h with h | h
  · exact ⟨h.2.2.1, MBk.i (by omega) (by omega)⟩
  · exact ⟨h.2.1, MBk.g (by omega) (by omega)⟩
theorem CLv.ck {b K i s : Nat} (h : CLv b K i s) : CBk b K i := by
  rcases h with h | h
  · exact CBk.a (by omega) h.2.1
  · exact CBk.e h.1 h.2
theorem MLv.mk {b K i s : Nat} (h : MLv b K i s) : i = 0 ∧ MBk b K s := by
  rcases h with h | h | h
  · exact ⟨h.2.1, MBk.a (by omega) h.2.2⟩
  · exact ⟨h.2.1, MBk.j h.1 h.2.2⟩
  · exact ⟨h.2.1, MBk.g (by omega) h.2.2⟩
theorem MPo.mk {b K i s : Nat} (h : MPo b K i s) : i = 0 ∧ MBk b K s := by
  rcases h with h | h
  · exact ⟨h.2.1, MBk.c (by omega) h.2.2⟩
  · exact ⟨h.2.1, MBk.a (by omega) h.2.2⟩
theorem bsz_of {b K i : Nat} (h : CBk b K i) : ∃ z, bsz K = z ∧ i < z * (b + 1) := by
  rcases h with ⟨h1, h2⟩ | ⟨h1, h2⟩ | ⟨h1, h2⟩ | ⟨h1, h2⟩ | ⟨h1, h2⟩ | ⟨h1, h2⟩
  · exact ⟨1, by unfold bsz; rw [if_neg (by omega), if_neg (by omega), if_neg (by omega), if_neg (by omega), if_neg (by omega)], by omega⟩
  · exact ⟨8, by unfold bsz; rw [if_pos (by omega)], by omega⟩
  · exact ⟨16, by unfold bsz; rw [if_neg (by omega), if_pos (by omega)], by omega⟩
  · exact ⟨4, by unfold bsz; rw [if_neg (by omega), if_neg (by omega), if_pos (by omega)], by omega⟩
  · exact ⟨24, by unfold bsz; rw [if_neg (by omega), if_neg (by omega), if_neg (by omega), if_pos (by omega)], by omega⟩
  · exact ⟨384, by unfold bsz; rw [if_neg (by omega), if_neg (by omega), if_neg (by omega), if_neg (by omega), if_pos (by omega)], by omega⟩
theorem CBk_out {b K i : Nat} {x : Int} (h : CBk b K i) (hb : (b : Int) < x) : ¬ (bsz K * x ≤ (i : Int)) := by
  obtain ⟨z, hz, hi⟩ := bsz_of h
  rw [hz]
  have h1 : z * (b + 1) ≤ z * x.toNat := Nat.mul_le_mul_left z (by omega)
  have h2 : (z : Int) * x = ((z * x.toNat : Nat) : Int) := by rw [← mulc]; congr 1; omega
  rw [h2]
  omega
theorem MBk_out {b K s : Nat} {x : Int} (hK : isMK K) (h : MBk b K s) (hb : (b : Int) < x) : ¬ (msz K * x ≤ (s : Int)) := by
  unfold isMK at hK
  rcases h with ⟨h1, h2⟩ | ⟨h1, h2⟩ | ⟨h1, h2⟩ | ⟨h1, h2⟩ | ⟨h1, h2⟩ | ⟨h1, h2⟩ | ⟨h1, h2⟩ | ⟨h1, h2⟩ | ⟨h1, h2⟩ | ⟨h1, h2⟩
  · rw [show msz K = 1 by unfold msz; rw [if_pos (by omega)]]; omega
  · omega
  · rw [show msz K = 16 by unfold msz; rw [if_neg (by omega), if_pos (by omega)]]; omega
  · omega
  · omega
  · omega
  · rw [show msz K = 8 by unfold msz; rw [if_neg (by omega), if_neg (by omega), if_pos (by omega)]]; omega
  · omega
  · rw [show msz K = 4 by unfold msz; rw [if_neg (by omega), if_neg (by omega), if_neg (by omega)]]; omega
  · omega
/-- memory that differs in one book alone: the rest stays -/
theorem RR.book {N N' : Nat} {mc mm mc' mm' : MM} {b0 : Nat} (h : RR N mc mm) (hN : N ≤ N') (hz : ∀ K i, gZ mc' K i = gZ mc K i) (hz' : ∀ K i k, gZ mm K i = some k → gZ mm' K i = some k) (hC : ∀ K, gC mc' K = gC mc K)
    (hb0 : (b0 : Int) < gN mm 12 0 19)
    (cg : ∀ K i s, K = 1 ∨ K = 3 ∨ K = 6 ∨ K = 7 ∨ K = 10 ∨ K = 11 ∨ (20 ≤ K ∧ K ≤ 24) ∨ K = 50 ∨ (53 ≤ K ∧ K ≤ 58) → eq3 mc mc' K i s)
    (cb : ∀ K i s, isBK K → ¬ CBk b0 K i → eq3 mc mc' K i s)
    (mg : ∀ K i s, (K = 12 ∧ 1 ≤ s ∧ s ≠ 79) ∨ (59 ≤ K ∧ K ≤ 77) ∨ (105 ≤ K ∧ K ≤ 107) ∨ (121 ≤ K ∧ K ≤ 125) → eq3 mm mm' K i s)
    (mb : ∀ K s, 78 ≤ K → K ≤ 126 → ¬ MBk b0 K s → eq3 mm mm' K 0 s)
    (hB : ∃ F n M Ln E, RBk mc' mm' b0 F n M Ln E) (hPf : RPf mm' N') (hPc : RPc mm') : RR N' mc' mm' := by
  have e19 := (mg 12 0 19 (by omega)).1
  refine ⟨h.C.mv2 (fun K i s hk => (cg K i s (by omega)).2.2) (fun K i k hk => by rw [hz]; exact hk), h.M.mv2 (fun s hs => ?_) (fun K i k hk => hz' K i k hk), h.T.keep (cg 10 0 5 (by omega)).1 (mg 12 0 1 (by omega)).1 (fun k => (cg 50 0 k (by omega)).1) (fun k => (mg 59 0 k (by omega)).1), h.Sp.keep (fun K i s hk => cg K i s (by omega)) (fun K i s hk => mg K i s (by omega)),
    h.Ca.keep (cg 1 0 5 (by omega)).1 (mg 12 0 6 (by omega)).1 (fun K h1 h2 k => (cg K 0 k (by omega)).1) (fun K h1 h2 k => (mg K 0 k (by omega)).1), h.H.keep (by omega) (fun K i s hk => cg K i s (by omega)) (hC 3) (fun K i s hk => mg K i s (by omega)), h.Mi.keep (fun K i s hk => cg K i s (by omega)) (fun K i s hk => mg K i s (by omega)), h.Pr.keep (fun i s _ => cg 6 i s (by omega)) (fun K s h1 h2 => mg K 0 s (by omega)), h.Nb.keep (cg 11 0 8 (by omega)).1 e19 (fun s => (cg 56 0 s (by omega)).2.2), ?_, hPf, hPc, h.Fr.keep e19 hC hz (fun K i s hK hi => cb K i s hK (fun q => CBk_out q hb0 hi)) (fun K i hK hi => ?_)⟩
  · exact (mg 12 0 s (by omega)).2.2
  · intro b hb
    rw [e19] at hb
    by_cases hbb : b = b0
    · subst hbb
      exact hB
    · obtain ⟨F, n, M, Ln, E, hB0⟩ := h.Bk b hb
      have c1 : ∀ K i s, CBk b K i → eq3 mc mc' K i s := fun K i s hk => cb K i s hk.bk (hk.dj hbb)
      have m1 : ∀ K i s, i = 0 ∧ MBk b K s → eq3 mm mm' K i s := fun K i s hk => by
        obtain ⟨rfl, hk⟩ := hk
        exact mb K s hk.bk.1 hk.bk.2 (hk.dj hbb)
      refine ⟨F, n, M, Ln, E, hB0.keep (fun K i k hk => by rw [hz]; exact hk) (fun K h1 h2 => (mg K 0 b (by omega)).1) (fun K i s hk => ?_) (fun K i s hk => ?_) (fun K i s hk => ?_) (fun p hp K i s hk => c1 K i s (hk.ck hp)) (fun p hp K i s hk => m1 K i s (hk.mk hp)) (fun p hp K i s hk => c1 K i s (hk.ck hp)) (fun p hp K i s hk => m1 K i s (hk.mk hp)) (fun p hp K i s hk => c1 K i s (hk.ck hp)) (fun p hp K i s hk => m1 K i s (hk.mk hp)) (fun p f hp hf K i s hk => c1 K i s (hk.ck hp hf)) (fun p f hp hf K i s hk => ?_) (fun p hp K i s hk => c1 K i s (hk.ck hp)) (fun p hp K i s hk => m1 K i s (hk.mk hp)) (fun p hp K i s hk => c1 K i s (hk.ck hp)) (fun p hp K i s hk => m1 K i s (hk.mk hp)) (fun K i s hk => c1 K i s hk.ck) (fun K i s hk => m1 K i s hk.mk) (fun K i s hk => m1 K i s hk.mk) (by rw [(mg 12 0 69 (by omega)).1]; exact Int.le_refl _) (fun x => by rw [(mg 63 0 x (by omega)).1]; exact Int.le_refl _)⟩
      · rcases hk.ck with q | q
        · exact cg K i s (by omega)
        · exact c1 K i s q
      · rcases hk.ck with q | q
        · exact cg K i s (by omega)
        · exact c1 K i s q
      · rcases hk.mk with q | q | q
        · exact mg K i s (by omega)
        · exact mg K i s (by omega)
        · exact m1 K i s q
      · rcases hk.mk hp hf with q | q | q
        · exact mg K i s (by omega)
        · exact mg K i s (by omega)
        · exact m1 K i s q
  · exact (mb K i (by unfold isMK at hK; omega) (by unfold isMK at hK; omega) (fun q => MBk_out hK q hb0 hi)).1
