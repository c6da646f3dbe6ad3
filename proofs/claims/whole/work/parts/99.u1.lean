/-! THE LAW: one memory for both; what a call leaves of what the other side keeps. -/
theorem SM.mv3 {m m' : MM} (h : SM m) (hr : ∀ s, (s ≠ 0 ∧ s ≠ 1 ∧ s ≠ 3 ∧ s ≠ 6 ∧ s ≠ 12 ∧ s ≠ 19 ∧ s ≠ 52 ∧ s ≠ 69 ∧ s ≠ 74 ∧ s ≠ 79) → gR m' 12 0 s = gR m 12 0 s) (hz : ∀ K i n, 59 ≤ K → gZ m K i = some n → gZ m' K i = some n) : SM m' := by
  unfold SM at h ⊢
  refine ⟨⟨?_, ?_⟩, ⟨?_, ?_⟩, ⟨?_, ?_⟩, ⟨?_, ?_⟩, ⟨?_, ?_⟩, ⟨?_, ?_⟩, ⟨?_, ?_⟩, ⟨?_, ?_⟩, ⟨?_, ?_⟩, ⟨?_, ?_⟩, ⟨?_, ?_⟩, ⟨?_, ?_⟩, ⟨?_, ?_⟩, ⟨?_, ?_⟩, ⟨?_, ?_⟩, ⟨?_, ?_⟩, ⟨?_, ?_⟩, ⟨?_, ?_⟩, ⟨?_, ?_⟩, ⟨?_, ?_⟩, ⟨?_, ?_⟩, ⟨?_, ?_⟩, ⟨?_, ?_⟩, ⟨?_, ?_⟩, ⟨?_, ?_⟩, ⟨?_, ?_⟩, ⟨?_, ?_⟩, ⟨?_, ?_⟩, ⟨?_, ?_⟩, ⟨?_, ?_⟩, ⟨?_, ?_⟩, ⟨?_, ?_⟩, ⟨?_, ?_⟩, ⟨?_, ?_⟩, ⟨?_, ?_⟩, ⟨?_, ?_⟩, ⟨?_, ?_⟩, ⟨?_, ?_⟩, ⟨?_, ?_⟩, ⟨?_, ?_⟩, ⟨?_, ?_⟩, ⟨?_, ?_⟩, ⟨?_, ?_⟩, ⟨?_, ?_⟩, ⟨?_, ?_⟩, ⟨?_, ?_⟩, ⟨?_, ?_⟩, ⟨?_, ?_⟩, ⟨?_, ?_⟩, ⟨?_, ?_⟩, ⟨?_, ?_⟩, ⟨?_, ?_⟩, ⟨?_, ?_⟩, ⟨?_, ?_⟩, ⟨?_, ?_⟩, ⟨?_, ?_⟩, ⟨?_, ?_⟩, ⟨?_, ?_⟩, ⟨?_, ?_⟩, ⟨?_, ?_⟩, ⟨?_, ?_⟩, ⟨?_, ?_⟩, ⟨?_, ?_⟩, ⟨?_, ?_⟩, ⟨?_, ?_⟩, ⟨?_, ?_⟩, ⟨?_, ?_⟩, ⟨?_, ?_⟩, ⟨?_, ?_⟩, ⟨?_, ?_⟩, ⟨?_, ?_⟩, ⟨?_, ?_⟩⟩
  · rw [hr _ (by decide)]; exact h.1.1
  · exact hz _ _ _ (by decide) h.1.2
  · rw [hr _ (by decide)]; exact h.2.1.1
  · exact hz _ _ _ (by decide) h.2.1.2
  · rw [hr _ (by decide)]; exact h.2.2.1.1
  · exact hz _ _ _ (by decide) h.2.2.1.2
  · rw [hr _ (by decide)]; exact h.2.2.2.1.1
  · exact hz _ _ _ (by decide) h.2.2.2.1.2
  · rw [hr _ (by decide)]; exact h.2.2.2.2.1.1
  · exact hz _ _ _ (by decide) h.2.2.2.2.1.2
  · rw [hr _ (by decide)]; exact h.2.2.2.2.2.1.1
  · exact hz _ _ _ (by decide) h.2.2.2.2.2.1.2
  · rw [hr _ (by decide)]; exact h.2.2.2.2.2.2.1.1
  · exact hz _ _ _ (by decide) h.2.2.2.2.2.2.1.2
  · rw [hr _ (by decide)]; exact h.2.2.2.2.2.2.2.1.1
  · exact hz _ _ _ (by decide) h.2.2.2.2.2.2.2.1.2
  · rw [hr _ (by decide)]; exact h.2.2.2.2.2.2.2.2.1.1
  · exact hz _ _ _ (by decide) h.2.2.2.2.2.2.2.2.1.2
  · rw [hr _ (by decide)]; exact h.2.2.2.2.2.2.2.2.2.1.1
  · exact hz _ _ _ (by decide) h.2.2.2.2.2.2.2.2.2.1.2
  · rw [hr _ (by decide)]; exact h.2.2.2.2.2.2.2.2.2.2.1.1
  · exact hz _ _ _ (by decide) h.2.2.2.2.2.2.2.2.2.2.1.2
  · rw [hr _ (by decide)]; exact h.2.2.2.2.2.2.2.2.2.2.2.1.1
  · exact hz _ _ _ (by decide) h.2.2.2.2.2.2.2.2.2.2.2.1.2
  · rw [hr _ (by decide)]; exact h.2.2.2.2.2.2.2.2.2.2.2.2.1.1
  · exact hz _ _ _ (by decide) h.2.2.2.2.2.2.2.2.2.2.2.2.1.2
  · rw [hr _ (by decide)]; exact h.2.2.2.2.2.2.2.2.2.2.2.2.2.1.1
  · exact hz _ _ _ (by decide) h.2.2.2.2.2.2.2.2.2.2.2.2.2.1.2
  · rw [hr _ (by decide)]; exact h.2.2.2.2.2.2.2.2.2.2.2.2.2.2.1.1
  · exact hz _ _ _ (by decide) h.2.2.2.2.2.2.2.2.2.2.2.2.2.2.1.2
  · rw [hr _ (by decide)]; exact h.2.2.2.2.2.2.2.2.2.2.2.2.2.2.2.1.1
  · exact hz _ _ _ (by decide) h.2.2.2.2.2.2.2.2.2.2.2.2.2.2.2.1.2
  · rw [hr _ (by decide)]; exact h.2.2.2.2.2.2.2.2.2.2.2.2.2.2.2.2.1.1
  · exact hz _ _ _ (by decide) h.2.2.2.2.2.2.2.2.2.2.2.2.2.2.2.2.1.2
  · rw [hr _ (by decide)]; exact h.2.2.2.2.2.2.2.2.2.2.2.2.2.2.2.2.2.1.1
  · exact hz _ _ _ (by decide) h.2.2.2.2.2.2.2.2.2.2.2.2.2.2.2.2.2.1.2
  · rw [hr _ (by decide)]; exact h.2.2.2.2.2.2.2.2.2.2.2.2.2.2.2.2.2.2.1.1
  · exact hz _ _ _ (by decide) h.2.2.2.2.2.2.2.2.2.2.2.2.2.2.2.2.2.2.1.2
  · rw [hr _ (by decide)]; exact h.2.2.2.2.2.2.2.2.2.2.2.2.2.2.2.2.2.2.2.1.1
  · exact hz _ _ _ (by decide) h.2.2.2.2.2.2.2.2.2.2.2.2.2.2.2.2.2.2.2.1.2
  · rw [hr _ (by decide)]; exact h.2.2.2.2.2.2.2.2.2.2.2.2.2.2.2.2.2.2.2.2.1.1
  · exact hz _ _ _ (by decide) h.2.2.2.2.2.2.2.2.2.2.2.2.2.2.2.2.2.2.2.2.1.2
  · rw [hr _ (by decide)]; exact h.2.2.2.2.2.2.2.2.2.2.2.2.2.2.2.2.2.2.2.2.2.1.1
  · exact hz _ _ _ (by decide) h.2.2.2.2.2.2.2.2.2.2.2.2.2.2.2.2.2.2.2.2.2.1.2
  · rw [hr _ (by decide)]; exact h.2.2.2.2.2.2.2.2.2.2.2.2.2.2.2.2.2.2.2.2.2.2.1.1
  · exact hz _ _ _ (by decide) h.2.2.2.2.2.2.2.2.2.2.2.2.2.2.2.2.2.2.2.2.2.2.1.2
  · rw [hr _ (by decide)]; exact h.2.2.2.2.2.2.2.2.2.2.2.2.2.2.2.2.2.2.2.2.2.2.2.1.1
  · exact hz _ _ _ (by decide) h.2.2.2.2.2.2.2.2.2.2.2.2.2.2.2.2.2.2.2.2.2.2.2.1.2
  · rw [hr _ (by decide)]; exact h.2.2.2.2.2.2.2.2.2.2.2.2.2.2.2.2.2.2.2.2.2.2.2.2.1.1
  · exact hz _ _ _ (by decide) h.2.2.2.2.2.2.2.2.2.2.2.2.2.2.2.2.2.2.2.2.2.2.2.2.1.2
  · rw [hr _ (by decide)]; exact h.2.2.2.2.2.2.2.2.2.2.2.2.2.2.2.2.2.2.2.2.2.2.2.2.2.1.1
  · exact hz _ _ _ (by decide) h.2.2.2.2.2.2.2.2.2.2.2.2.2.2.2.2.2.2.2.2.2.2.2.2.2.1.2
  · rw [hr _ (by decide)]; exact h.2.2.2.2.2.2.2.2.2.2.2.2.2.2.2.2.2.2.2.2.2.2.2.2.2.2.1.1
  · exact hz _ _ _ (by decide) h.2.2.2.2.2.2.2.2.2.2.2.2.2.2.2.2.2.2.2.2.2.2.2.2.2.2.1.2
  · rw [hr _ (by decide)]; exact h.2.2.2.2.2.2.2.2.2.2.2.2.2.2.2.2.2.2.2.2.2.2.2.2.2.2.2.1.1
  · exact hz _ _ _ (by decide) h.2.2.2.2.2.2.2.2.2.2.2.2.2.2.2.2.2.2.2.2.2.2.2.2.2.2.2.1.2
  · rw [hr _ (by decide)]; exact h.2.2.2.2.2.2.2.2.2.2.2.2.2.2.2.2.2.2.2.2.2.2.2.2.2.2.2.2.1.1
  · exact hz _ _ _ (by decide) h.2.2.2.2.2.2.2.2.2.2.2.2.2.2.2.2.2.2.2.2.2.2.2.2.2.2.2.2.1.2
  · rw [hr _ (by decide)]; exact h.2.2.2.2.2.2.2.2.2.2.2.2.2.2.2.2.2.2.2.2.2.2.2.2.2.2.2.2.2.1.1
  · exact hz _ _ _ (by decide) h.2.2.2.2.2.2.2.2.2.2.2.2.2.2.2.2.2.2.2.2.2.2.2.2.2.2.2.2.2.1.2
  · rw [hr _ (by decide)]; exact h.2.2.2.2.2.2.2.2.2.2.2.2.2.2.2.2.2.2.2.2.2.2.2.2.2.2.2.2.2.2.1.1
  · exact hz _ _ _ (by decide) h.2.2.2.2.2.2.2.2.2.2.2.2.2.2.2.2.2.2.2.2.2.2.2.2.2.2.2.2.2.2.1.2
  · rw [hr _ (by decide)]; exact h.2.2.2.2.2.2.2.2.2.2.2.2.2.2.2.2.2.2.2.2.2.2.2.2.2.2.2.2.2.2.2.1.1
  · exact hz _ _ _ (by decide) h.2.2.2.2.2.2.2.2.2.2.2.2.2.2.2.2.2.2.2.2.2.2.2.2.2.2.2.2.2.2.2.1.2
  · rw [hr _ (by decide)]; exact h.2.2.2.2.2.2.2.2.2.2.2.2.2.2.2.2.2.2.2.2.2.2.2.2.2.2.2.2.2.2.2.2.1.1
  · exact hz _ _ _ (by decide) h.2.2.2.2.2.2.2.2.2.2.2.2.2.2.2.2.2.2.2.2.2.2.2.2.2.2.2.2.2.2.2.2.1.2
  · rw [hr _ (by decide)]; exact h.2.2.2.2.2.2.2.2.2.2.2.2.2.2.2.2.2.2.2.2.2.2.2.2.2.2.2.2.2.2.2.2.2.1.1
  · exact hz _ _ _ (by decide) h.2.2.2.2.2.2.2.2.2.2.2.2.2.2.2.2.2.2.2.2.2.2.2.2.2.2.2.2.2.2.2.2.2.1.2
  · rw [hr _ (by decide)]; exact h.2.2.2.2.2.2.2.2.2.2.2.2.2.2.2.2.2.2.2.2.2.2.2.2.2.2.2.2.2.2.2.2.2.2.1.1
  · exact hz _ _ _ (by decide) h.2.2.2.2.2.2.2.2.2.2.2.2.2.2.2.2.2.2.2.2.2.2.2.2.2.2.2.2.2.2.2.2.2.2.1.2
  · rw [hr _ (by decide)]; exact h.2.2.2.2.2.2.2.2.2.2.2.2.2.2.2.2.2.2.2.2.2.2.2.2.2.2.2.2.2.2.2.2.2.2.2.1.1
  · exact hz _ _ _ (by decide) h.2.2.2.2.2.2.2.2.2.2.2.2.2.2.2.2.2.2.2.2.2.2.2.2.2.2.2.2.2.2.2.2.2.2.2.1.2
  · rw [hr _ (by decide)]; exact h.2.2.2.2.2.2.2.2.2.2.2.2.2.2.2.2.2.2.2.2.2.2.2.2.2.2.2.2.2.2.2.2.2.2.2.2.1.1
  · exact hz _ _ _ (by decide) h.2.2.2.2.2.2.2.2.2.2.2.2.2.2.2.2.2.2.2.2.2.2.2.2.2.2.2.2.2.2.2.2.2.2.2.2.1.2
  · rw [hr _ (by decide)]; exact h.2.2.2.2.2.2.2.2.2.2.2.2.2.2.2.2.2.2.2.2.2.2.2.2.2.2.2.2.2.2.2.2.2.2.2.2.2.1.1
  · exact hz _ _ _ (by decide) h.2.2.2.2.2.2.2.2.2.2.2.2.2.2.2.2.2.2.2.2.2.2.2.2.2.2.2.2.2.2.2.2.2.2.2.2.2.1.2
  · rw [hr _ (by decide)]; exact h.2.2.2.2.2.2.2.2.2.2.2.2.2.2.2.2.2.2.2.2.2.2.2.2.2.2.2.2.2.2.2.2.2.2.2.2.2.2.1.1
  · exact hz _ _ _ (by decide) h.2.2.2.2.2.2.2.2.2.2.2.2.2.2.2.2.2.2.2.2.2.2.2.2.2.2.2.2.2.2.2.2.2.2.2.2.2.2.1.2
  · rw [hr _ (by decide)]; exact h.2.2.2.2.2.2.2.2.2.2.2.2.2.2.2.2.2.2.2.2.2.2.2.2.2.2.2.2.2.2.2.2.2.2.2.2.2.2.2.1.1
  · exact hz _ _ _ (by decide) h.2.2.2.2.2.2.2.2.2.2.2.2.2.2.2.2.2.2.2.2.2.2.2.2.2.2.2.2.2.2.2.2.2.2.2.2.2.2.2.1.2
  · rw [hr _ (by decide)]; exact h.2.2.2.2.2.2.2.2.2.2.2.2.2.2.2.2.2.2.2.2.2.2.2.2.2.2.2.2.2.2.2.2.2.2.2.2.2.2.2.2.1.1
  · exact hz _ _ _ (by decide) h.2.2.2.2.2.2.2.2.2.2.2.2.2.2.2.2.2.2.2.2.2.2.2.2.2.2.2.2.2.2.2.2.2.2.2.2.2.2.2.2.1.2
  · rw [hr _ (by decide)]; exact h.2.2.2.2.2.2.2.2.2.2.2.2.2.2.2.2.2.2.2.2.2.2.2.2.2.2.2.2.2.2.2.2.2.2.2.2.2.2.2.2.2.1.1
  · exact hz _ _ _ (by decide) h.2.2.2.2.2.2.2.2.2.2.2.2.2.2.2.2.2.2.2.2.2.2.2.2.2.2.2.2.2.2.2.2.2.2.2.2.2.2.2.2.2.1.2
  · rw [hr _ (by decide)]; exact h.2.2.2.2.2.2.2.2.2.2.2.2.2.2.2.2.2.2.2.2.2.2.2.2.2.2.2.2.2.2.2.2.2.2.2.2.2.2.2.2.2.2.1.1
  · exact hz _ _ _ (by decide) h.2.2.2.2.2.2.2.2.2.2.2.2.2.2.2.2.2.2.2.2.2.2.2.2.2.2.2.2.2.2.2.2.2.2.2.2.2.2.2.2.2.2.1.2
  · rw [hr _ (by decide)]; exact h.2.2.2.2.2.2.2.2.2.2.2.2.2.2.2.2.2.2.2.2.2.2.2.2.2.2.2.2.2.2.2.2.2.2.2.2.2.2.2.2.2.2.2.1.1
  · exact hz _ _ _ (by decide) h.2.2.2.2.2.2.2.2.2.2.2.2.2.2.2.2.2.2.2.2.2.2.2.2.2.2.2.2.2.2.2.2.2.2.2.2.2.2.2.2.2.2.2.1.2
  · rw [hr _ (by decide)]; exact h.2.2.2.2.2.2.2.2.2.2.2.2.2.2.2.2.2.2.2.2.2.2.2.2.2.2.2.2.2.2.2.2.2.2.2.2.2.2.2.2.2.2.2.2.1.1
  · exact hz _ _ _ (by decide) h.2.2.2.2.2.2.2.2.2.2.2.2.2.2.2.2.2.2.2.2.2.2.2.2.2.2.2.2.2.2.2.2.2.2.2.2.2.2.2.2.2.2.2.2.1.2
  · rw [hr _ (by decide)]; exact h.2.2.2.2.2.2.2.2.2.2.2.2.2.2.2.2.2.2.2.2.2.2.2.2.2.2.2.2.2.2.2.2.2.2.2.2.2.2.2.2.2.2.2.2.2.1.1
  · exact hz _ _ _ (by decide) h.2.2.2.2.2.2.2.2.2.2.2.2.2.2.2.2.2.2.2.2.2.2.2.2.2.2.2.2.2.2.2.2.2.2.2.2.2.2.2.2.2.2.2.2.2.1.2
  · rw [hr _ (by decide)]; exact h.2.2.2.2.2.2.2.2.2.2.2.2.2.2.2.2.2.2.2.2.2.2.2.2.2.2.2.2.2.2.2.2.2.2.2.2.2.2.2.2.2.2.2.2.2.2.1.1
  · exact hz _ _ _ (by decide) h.2.2.2.2.2.2.2.2.2.2.2.2.2.2.2.2.2.2.2.2.2.2.2.2.2.2.2.2.2.2.2.2.2.2.2.2.2.2.2.2.2.2.2.2.2.2.1.2
  · rw [hr _ (by decide)]; exact h.2.2.2.2.2.2.2.2.2.2.2.2.2.2.2.2.2.2.2.2.2.2.2.2.2.2.2.2.2.2.2.2.2.2.2.2.2.2.2.2.2.2.2.2.2.2.2.1.1
  · exact hz _ _ _ (by decide) h.2.2.2.2.2.2.2.2.2.2.2.2.2.2.2.2.2.2.2.2.2.2.2.2.2.2.2.2.2.2.2.2.2.2.2.2.2.2.2.2.2.2.2.2.2.2.2.1.2
  · rw [hr _ (by decide)]; exact h.2.2.2.2.2.2.2.2.2.2.2.2.2.2.2.2.2.2.2.2.2.2.2.2.2.2.2.2.2.2.2.2.2.2.2.2.2.2.2.2.2.2.2.2.2.2.2.2.1.1
  · exact hz _ _ _ (by decide) h.2.2.2.2.2.2.2.2.2.2.2.2.2.2.2.2.2.2.2.2.2.2.2.2.2.2.2.2.2.2.2.2.2.2.2.2.2.2.2.2.2.2.2.2.2.2.2.2.1.2
  · rw [hr _ (by decide)]; exact h.2.2.2.2.2.2.2.2.2.2.2.2.2.2.2.2.2.2.2.2.2.2.2.2.2.2.2.2.2.2.2.2.2.2.2.2.2.2.2.2.2.2.2.2.2.2.2.2.2.1.1
  · exact hz _ _ _ (by decide) h.2.2.2.2.2.2.2.2.2.2.2.2.2.2.2.2.2.2.2.2.2.2.2.2.2.2.2.2.2.2.2.2.2.2.2.2.2.2.2.2.2.2.2.2.2.2.2.2.2.1.2
  · rw [hr _ (by decide)]; exact h.2.2.2.2.2.2.2.2.2.2.2.2.2.2.2.2.2.2.2.2.2.2.2.2.2.2.2.2.2.2.2.2.2.2.2.2.2.2.2.2.2.2.2.2.2.2.2.2.2.2.1.1
  · exact hz _ _ _ (by decide) h.2.2.2.2.2.2.2.2.2.2.2.2.2.2.2.2.2.2.2.2.2.2.2.2.2.2.2.2.2.2.2.2.2.2.2.2.2.2.2.2.2.2.2.2.2.2.2.2.2.2.1.2
  · rw [hr _ (by decide)]; exact h.2.2.2.2.2.2.2.2.2.2.2.2.2.2.2.2.2.2.2.2.2.2.2.2.2.2.2.2.2.2.2.2.2.2.2.2.2.2.2.2.2.2.2.2.2.2.2.2.2.2.2.1.1
  · exact hz _ _ _ (by decide) h.2.2.2.2.2.2.2.2.2.2.2.2.2.2.2.2.2.2.2.2.2.2.2.2.2.2.2.2.2.2.2.2.2.2.2.2.2.2.2.2.2.2.2.2.2.2.2.2.2.2.2.1.2
  · rw [hr _ (by decide)]; exact h.2.2.2.2.2.2.2.2.2.2.2.2.2.2.2.2.2.2.2.2.2.2.2.2.2.2.2.2.2.2.2.2.2.2.2.2.2.2.2.2.2.2.2.2.2.2.2.2.2.2.2.2.1.1
  · exact hz _ _ _ (by decide) h.2.2.2.2.2.2.2.2.2.2.2.2.2.2.2.2.2.2.2.2.2.2.2.2.2.2.2.2.2.2.2.2.2.2.2.2.2.2.2.2.2.2.2.2.2.2.2.2.2.2.2.2.1.2
  · rw [hr _ (by decide)]; exact h.2.2.2.2.2.2.2.2.2.2.2.2.2.2.2.2.2.2.2.2.2.2.2.2.2.2.2.2.2.2.2.2.2.2.2.2.2.2.2.2.2.2.2.2.2.2.2.2.2.2.2.2.2.1.1
  · exact hz _ _ _ (by decide) h.2.2.2.2.2.2.2.2.2.2.2.2.2.2.2.2.2.2.2.2.2.2.2.2.2.2.2.2.2.2.2.2.2.2.2.2.2.2.2.2.2.2.2.2.2.2.2.2.2.2.2.2.2.1.2
  · rw [hr _ (by decide)]; exact h.2.2.2.2.2.2.2.2.2.2.2.2.2.2.2.2.2.2.2.2.2.2.2.2.2.2.2.2.2.2.2.2.2.2.2.2.2.2.2.2.2.2.2.2.2.2.2.2.2.2.2.2.2.2.1.1
  · exact hz _ _ _ (by decide) h.2.2.2.2.2.2.2.2.2.2.2.2.2.2.2.2.2.2.2.2.2.2.2.2.2.2.2.2.2.2.2.2.2.2.2.2.2.2.2.2.2.2.2.2.2.2.2.2.2.2.2.2.2.2.1.2
  · rw [hr _ (by decide)]; exact h.2.2.2.2.2.2.2.2.2.2.2.2.2.2.2.2.2.2.2.2.2.2.2.2.2.2.2.2.2.2.2.2.2.2.2.2.2.2.2.2.2.2.2.2.2.2.2.2.2.2.2.2.2.2.2.1.1
  · exact hz _ _ _ (by decide) h.2.2.2.2.2.2.2.2.2.2.2.2.2.2.2.2.2.2.2.2.2.2.2.2.2.2.2.2.2.2.2.2.2.2.2.2.2.2.2.2.2.2.2.2.2.2.2.2.2.2.2.2.2.2.2.1.2
  · rw [hr _ (by decide)]; exact h.2.2.2.2.2.2.2.2.2.2.2.2.2.2.2.2.2.2.2.2.2.2.2.2.2.2.2.2.2.2.2.2.2.2.2.2.2.2.2.2.2.2.2.2.2.2.2.2.2.2.2.2.2.2.2.2.1.1
  · exact hz _ _ _ (by decide) h.2.2.2.2.2.2.2.2.2.2.2.2.2.2.2.2.2.2.2.2.2.2.2.2.2.2.2.2.2.2.2.2.2.2.2.2.2.2.2.2.2.2.2.2.2.2.2.2.2.2.2.2.2.2.2.2.1.2
  · rw [hr _ (by decide)]; exact h.2.2.2.2.2.2.2.2.2.2.2.2.2.2.2.2.2.2.2.2.2.2.2.2.2.2.2.2.2.2.2.2.2.2.2.2.2.2.2.2.2.2.2.2.2.2.2.2.2.2.2.2.2.2.2.2.2.1.1
  · exact hz _ _ _ (by decide) h.2.2.2.2.2.2.2.2.2.2.2.2.2.2.2.2.2.2.2.2.2.2.2.2.2.2.2.2.2.2.2.2.2.2.2.2.2.2.2.2.2.2.2.2.2.2.2.2.2.2.2.2.2.2.2.2.2.1.2
  · rw [hr _ (by decide)]; exact h.2.2.2.2.2.2.2.2.2.2.2.2.2.2.2.2.2.2.2.2.2.2.2.2.2.2.2.2.2.2.2.2.2.2.2.2.2.2.2.2.2.2.2.2.2.2.2.2.2.2.2.2.2.2.2.2.2.2.1.1
  · exact hz _ _ _ (by decide) h.2.2.2.2.2.2.2.2.2.2.2.2.2.2.2.2.2.2.2.2.2.2.2.2.2.2.2.2.2.2.2.2.2.2.2.2.2.2.2.2.2.2.2.2.2.2.2.2.2.2.2.2.2.2.2.2.2.2.1.2
  · rw [hr _ (by decide)]; exact h.2.2.2.2.2.2.2.2.2.2.2.2.2.2.2.2.2.2.2.2.2.2.2.2.2.2.2.2.2.2.2.2.2.2.2.2.2.2.2.2.2.2.2.2.2.2.2.2.2.2.2.2.2.2.2.2.2.2.2.1.1
  · exact hz _ _ _ (by decide) h.2.2.2.2.2.2.2.2.2.2.2.2.2.2.2.2.2.2.2.2.2.2.2.2.2.2.2.2.2.2.2.2.2.2.2.2.2.2.2.2.2.2.2.2.2.2.2.2.2.2.2.2.2.2.2.2.2.2.2.1.2
  · rw [hr _ (by decide)]; exact h.2.2.2.2.2.2.2.2.2.2.2.2.2.2.2.2.2.2.2.2.2.2.2.2.2.2.2.2.2.2.2.2.2.2.2.2.2.2.2.2.2.2.2.2.2.2.2.2.2.2.2.2.2.2.2.2.2.2.2.2.1.1
  · exact hz _ _ _ (by decide) h.2.2.2.2.2.2.2.2.2.2.2.2.2.2.2.2.2.2.2.2.2.2.2.2.2.2.2.2.2.2.2.2.2.2.2.2.2.2.2.2.2.2.2.2.2.2.2.2.2.2.2.2.2.2.2.2.2.2.2.2.1.2
  · rw [hr _ (by decide)]; exact h.2.2.2.2.2.2.2.2.2.2.2.2.2.2.2.2.2.2.2.2.2.2.2.2.2.2.2.2.2.2.2.2.2.2.2.2.2.2.2.2.2.2.2.2.2.2.2.2.2.2.2.2.2.2.2.2.2.2.2.2.2.1.1
  · exact hz _ _ _ (by decide) h.2.2.2.2.2.2.2.2.2.2.2.2.2.2.2.2.2.2.2.2.2.2.2.2.2.2.2.2.2.2.2.2.2.2.2.2.2.2.2.2.2.2.2.2.2.2.2.2.2.2.2.2.2.2.2.2.2.2.2.2.2.1.2
  · rw [hr _ (by decide)]; exact h.2.2.2.2.2.2.2.2.2.2.2.2.2.2.2.2.2.2.2.2.2.2.2.2.2.2.2.2.2.2.2.2.2.2.2.2.2.2.2.2.2.2.2.2.2.2.2.2.2.2.2.2.2.2.2.2.2.2.2.2.2.2.1.1
  · exact hz _ _ _ (by decide) h.2.2.2.2.2.2.2.2.2.2.2.2.2.2.2.2.2.2.2.2.2.2.2.2.2.2.2.2.2.2.2.2.2.2.2.2.2.2.2.2.2.2.2.2.2.2.2.2.2.2.2.2.2.2.2.2.2.2.2.2.2.2.1.2
  · rw [hr _ (by decide)]; exact h.2.2.2.2.2.2.2.2.2.2.2.2.2.2.2.2.2.2.2.2.2.2.2.2.2.2.2.2.2.2.2.2.2.2.2.2.2.2.2.2.2.2.2.2.2.2.2.2.2.2.2.2.2.2.2.2.2.2.2.2.2.2.2.1.1
  · exact hz _ _ _ (by decide) h.2.2.2.2.2.2.2.2.2.2.2.2.2.2.2.2.2.2.2.2.2.2.2.2.2.2.2.2.2.2.2.2.2.2.2.2.2.2.2.2.2.2.2.2.2.2.2.2.2.2.2.2.2.2.2.2.2.2.2.2.2.2.2.1.2
  · rw [hr _ (by decide)]; exact h.2.2.2.2.2.2.2.2.2.2.2.2.2.2.2.2.2.2.2.2.2.2.2.2.2.2.2.2.2.2.2.2.2.2.2.2.2.2.2.2.2.2.2.2.2.2.2.2.2.2.2.2.2.2.2.2.2.2.2.2.2.2.2.2.1.1
  · exact hz _ _ _ (by decide) h.2.2.2.2.2.2.2.2.2.2.2.2.2.2.2.2.2.2.2.2.2.2.2.2.2.2.2.2.2.2.2.2.2.2.2.2.2.2.2.2.2.2.2.2.2.2.2.2.2.2.2.2.2.2.2.2.2.2.2.2.2.2.2.2.1.2
  · rw [hr _ (by decide)]; exact h.2.2.2.2.2.2.2.2.2.2.2.2.2.2.2.2.2.2.2.2.2.2.2.2.2.2.2.2.2.2.2.2.2.2.2.2.2.2.2.2.2.2.2.2.2.2.2.2.2.2.2.2.2.2.2.2.2.2.2.2.2.2.2.2.2.1.1
  · exact hz _ _ _ (by decide) h.2.2.2.2.2.2.2.2.2.2.2.2.2.2.2.2.2.2.2.2.2.2.2.2.2.2.2.2.2.2.2.2.2.2.2.2.2.2.2.2.2.2.2.2.2.2.2.2.2.2.2.2.2.2.2.2.2.2.2.2.2.2.2.2.2.1.2
  · rw [hr _ (by decide)]; exact h.2.2.2.2.2.2.2.2.2.2.2.2.2.2.2.2.2.2.2.2.2.2.2.2.2.2.2.2.2.2.2.2.2.2.2.2.2.2.2.2.2.2.2.2.2.2.2.2.2.2.2.2.2.2.2.2.2.2.2.2.2.2.2.2.2.2.1.1
  · exact hz _ _ _ (by decide) h.2.2.2.2.2.2.2.2.2.2.2.2.2.2.2.2.2.2.2.2.2.2.2.2.2.2.2.2.2.2.2.2.2.2.2.2.2.2.2.2.2.2.2.2.2.2.2.2.2.2.2.2.2.2.2.2.2.2.2.2.2.2.2.2.2.2.1.2
  · rw [hr _ (by decide)]; exact h.2.2.2.2.2.2.2.2.2.2.2.2.2.2.2.2.2.2.2.2.2.2.2.2.2.2.2.2.2.2.2.2.2.2.2.2.2.2.2.2.2.2.2.2.2.2.2.2.2.2.2.2.2.2.2.2.2.2.2.2.2.2.2.2.2.2.2.1.1
  · exact hz _ _ _ (by decide) h.2.2.2.2.2.2.2.2.2.2.2.2.2.2.2.2.2.2.2.2.2.2.2.2.2.2.2.2.2.2.2.2.2.2.2.2.2.2.2.2.2.2.2.2.2.2.2.2.2.2.2.2.2.2.2.2.2.2.2.2.2.2.2.2.2.2.2.1.2
  · rw [hr _ (by decide)]; exact h.2.2.2.2.2.2.2.2.2.2.2.2.2.2.2.2.2.2.2.2.2.2.2.2.2.2.2.2.2.2.2.2.2.2.2.2.2.2.2.2.2.2.2.2.2.2.2.2.2.2.2.2.2.2.2.2.2.2.2.2.2.2.2.2.2.2.2.2.1.1
  · exact hz _ _ _ (by decide) h.2.2.2.2.2.2.2.2.2.2.2.2.2.2.2.2.2.2.2.2.2.2.2.2.2.2.2.2.2.2.2.2.2.2.2.2.2.2.2.2.2.2.2.2.2.2.2.2.2.2.2.2.2.2.2.2.2.2.2.2.2.2.2.2.2.2.2.2.1.2
  · rw [hr _ (by decide)]; exact h.2.2.2.2.2.2.2.2.2.2.2.2.2.2.2.2.2.2.2.2.2.2.2.2.2.2.2.2.2.2.2.2.2.2.2.2.2.2.2.2.2.2.2.2.2.2.2.2.2.2.2.2.2.2.2.2.2.2.2.2.2.2.2.2.2.2.2.2.2.1.1
  · exact hz _ _ _ (by decide) h.2.2.2.2.2.2.2.2.2.2.2.2.2.2.2.2.2.2.2.2.2.2.2.2.2.2.2.2.2.2.2.2.2.2.2.2.2.2.2.2.2.2.2.2.2.2.2.2.2.2.2.2.2.2.2.2.2.2.2.2.2.2.2.2.2.2.2.2.2.1.2
  · rw [hr _ (by decide)]; exact h.2.2.2.2.2.2.2.2.2.2.2.2.2.2.2.2.2.2.2.2.2.2.2.2.2.2.2.2.2.2.2.2.2.2.2.2.2.2.2.2.2.2.2.2.2.2.2.2.2.2.2.2.2.2.2.2.2.2.2.2.2.2.2.2.2.2.2.2.2.2.1.1
  · exact hz _ _ _ (by decide) h.2.2.2.2.2.2.2.2.2.2.2.2.2.2.2.2.2.2.2.2.2.2.2.2.2.2.2.2.2.2.2.2.2.2.2.2.2.2.2.2.2.2.2.2.2.2.2.2.2.2.2.2.2.2.2.2.2.2.2.2.2.2.2.2.2.2.2.2.2.2.1.2
  · rw [hr _ (by decide)]; exact h.2.2.2.2.2.2.2.2.2.2.2.2.2.2.2.2.2.2.2.2.2.2.2.2.2.2.2.2.2.2.2.2.2.2.2.2.2.2.2.2.2.2.2.2.2.2.2.2.2.2.2.2.2.2.2.2.2.2.2.2.2.2.2.2.2.2.2.2.2.2.2.1
  · exact hz _ _ _ (by decide) h.2.2.2.2.2.2.2.2.2.2.2.2.2.2.2.2.2.2.2.2.2.2.2.2.2.2.2.2.2.2.2.2.2.2.2.2.2.2.2.2.2.2.2.2.2.2.2.2.2.2.2.2.2.2.2.2.2.2.2.2.2.2.2.2.2.2.2.2.2.2.2.2
theorem RBk.scr2 {mc mm mc' mm' : MM} {b F n M Ln E : Nat} (hB : RBk mc mm b F n M Ln E) (hz : ∀ K i, gZ mc' K i = gZ mc K i) (c1 : ∀ K i s, K ≠ 12 ∧ (K < 39 ∨ (45 ≤ K ∧ K < 51) ∨ (53 ≤ K ∧ K < 59)) → eq3 mc mc' K i s) (m1 : ∀ K i s, (59 ≤ K ∧ K < 127) ∨ (K = 12 ∧ 1 ≤ s ∧ s < 79) → eq3 mm mm' K i s) : RBk mc' mm' b F n M Ln E :=
  hB.keep (fun K i k hk => by rw [hz]; exact hk) (fun K h1 h2 => (m1 K 0 b (by omega)).1) (fun K i s hk => c1 K i s (by unfold CBS at hk; omega)) (fun K i s hk => c1 K i s (by unfold CTx at hk; omega)) (fun K i s hk => m1 K i s (by unfold MTx at hk; omega)) (fun p _ K i s hk => c1 K i s (by unfold CPg at hk; omega)) (fun p _ K i s hk => m1 K i s (by unfold MPg at hk; omega)) (fun p _ K i s hk => c1 K i s (by unfold CPl at hk; omega)) (fun p _ K i s hk => m1 K i s (by unfold MPl at hk; omega)) (fun p _ K i s hk => c1 K i s (by unfold CFo at hk; omega)) (fun p _ K i s hk => m1 K i s (by unfold MFo at hk; omega)) (fun p f _ _ K i s hk => c1 K i s (by unfold CPn at hk; omega)) (fun p f _ _ K i s hk => m1 K i s (by unfold MPn at hk; omega)) (fun p _ K i s hk => c1 K i s (by unfold CSe at hk; omega)) (fun p _ K i s hk => m1 K i s (by unfold MSe at hk; omega)) (fun p _ K i s hk => c1 K i s (by unfold CSh at hk; omega)) (fun p _ K i s hk => m1 K i s (by unfold MSh at hk; omega)) (fun K i s hk => c1 K i s (by unfold CLv at hk; omega)) (fun K i s hk => m1 K i s (by unfold MLv at hk; omega)) (fun K i s hk => m1 K i s (by unfold MPo at hk; omega)) (by rw [(m1 12 0 69 (by omega)).1]; exact Int.le_refl _) (fun x => by rw [(m1 63 0 x (by omega)).1]; exact Int.le_refl _)
theorem RR.scr2 {N N' : Nat} {mc mm mc' mm' : MM} (h : RR N mc mm) (hN : N ≤ N') (hz : ∀ K i, gZ mc' K i = gZ mc K i) (hz' : ∀ K i k, 59 ≤ K → gZ mm K i = some k → gZ mm' K i = some k) (hC : ∀ K, gC mc' K = gC mc K) (hc : ∀ K i s, K < 59 → K ≠ 12 → ¬ scC K s → eq3 mc mc' K i s) (hm : ∀ K i s, (K = 12 ∨ (59 ≤ K ∧ K < 131)) → ¬ scM K s → eq3 mm mm' K i s) : RR N' mc' mm' := by
  have c1 : ∀ K i s, K ≠ 12 ∧ (K < 39 ∨ (45 ≤ K ∧ K < 51) ∨ (53 ≤ K ∧ K < 59)) → eq3 mc mc' K i s := fun K i s hk => hc K i s (by omega) hk.1 (by unfold scC; omega)
  have m1 : ∀ K i s, (59 ≤ K ∧ K < 127) ∨ (K = 12 ∧ 1 ≤ s ∧ s < 79) → eq3 mm mm' K i s := fun K i s hk => hm K i s (by omega) (by unfold scM; omega)
  refine ⟨h.C.mv2 (fun K i s hk => (c1 K i s (by omega)).2.2) (fun K i k hk => by rw [hz]; exact hk), h.M.mv3 (fun s hs => (hm 12 0 s (by omega) (by unfold scM; omega)).2.2) (fun K i k hK hk => hz' K i k hK hk), h.T.keep (c1 10 0 5 (by omega)).1 (m1 12 0 1 (by omega)).1 (fun k => (c1 50 0 k (by omega)).1) (fun k => (m1 59 0 k (by omega)).1), h.Sp.keep (fun K i s hk => c1 K i s (by omega)) (fun K i s hk => m1 K i s (by omega)),
    h.Ca.keep (c1 1 0 5 (by omega)).1 (m1 12 0 6 (by omega)).1 (fun K h1 h2 k => (c1 K 0 k (by omega)).1) (fun K h1 h2 k => (m1 K 0 k (by omega)).1), h.H.keep (by omega) (fun K i s hk => c1 K i s (by omega)) (hC 3) (fun K i s hk => m1 K i s (by omega)), h.Mi.keep (fun K i s hk => c1 K i s (by omega)) (fun K i s hk => m1 K i s (by omega)), h.Pr.keep (fun i s _ => c1 6 i s (by omega)) (fun K s h1 h2 => m1 K 0 s (by omega)), h.Nb.keep (c1 11 0 8 (by omega)).1 (m1 12 0 19 (by omega)).1 (fun s => (c1 56 0 s (by omega)).2.2), ?_, h.Pf.keep hN (fun K i s hk => m1 K i s (by omega)), h.Pc.keep (fun K i s hk => m1 K i s (by omega)), h.Fr.keep (m1 12 0 19 (by omega)).1 hC hz (fun K i s hK _ => c1 K i s (by unfold isBK at hK; omega)) (fun K i hK _ => (m1 K 0 i (by unfold isMK at hK; omega)).1)⟩
  · intro b hb
    rw [(m1 12 0 19 (by omega)).1] at hb
    obtain ⟨F, n, M, Ln, E, hB⟩ := h.Bk b hb
    exact ⟨F, n, M, Ln, E, hB.scr2 hz c1 m1⟩

section LAW
variable {N : Nat} {m : MM}
/-- what a call of the class leaves -/
def LFc (m m' : MM) : Prop := (∀ K i s, K = 12 ∨ (59 ≤ K ∧ K ≤ 131) → eq3 m m' K i s) ∧ (∀ K i, 59 ≤ K → gZ m' K i = gZ m K i) ∧ (gA m' : Int) ≤ gA m + 10 + 2000 * (gN m' 11 0 8 - gN m 11 0 8) ∧ (gB m' : Int) ≤ gB m + 60 + 300000 * (gN m' 11 0 8 - gN m 11 0 8)
/-- what a call of the model leaves -/
def LFm (m m' : MM) : Prop := (∀ K i s, ¬ (K = 12 ∨ (59 ≤ K ∧ K ≤ 130)) → eq3 m m' K i s) ∧ (∀ K i, gZ m' K i = gZ m K i) ∧ (∀ K, gC m' K = gC m K) ∧ gA m' = gA m ∧ gB m' = gB m
def S1ok (S : List (Nat × Nat)) : Prop := ∀ q ∈ S, q.1 ≠ 12 ∧ q.1 < 59 ∧ (q.1 = 11 → q.2 ≠ 8)
def S2ok (S : List (Nat × Nat)) : Prop := ∀ q ∈ S, q.1 = 12 ∨ (59 ≤ q.1 ∧ q.1 ≤ 130)
theorem RF.LFc {S : List (Nat × Nat)} {r : RV} {m' : MM} (h : RF S m (r, m')) (hS : S1ok S) : LFc m m' := by
  have key : (∀ K s, ¬ inS S K s → (∀ i, gN m' K i s = gN m K i s) ∧ (∀ i, gL m' K i s = gL m K i s) ∧ ∀ i, gR m' K i s = gR m K i s) ∧ (∀ K i, gZ m' K i = gZ m K i) ∧ gA m' ≤ gA m + 1 ∧ gB m' ≤ gB m + 6 := by
    cases r with
    | inl v => exact ⟨h.1, h.2.1, by rw [h.2.2.2.1]; omega, by rw [h.2.2.2.2]; omega⟩
    | inr v => exact ⟨h.1, h.2.1, by rw [h.2.2.2.1]; omega, by rw [h.2.2.2.2]; omega⟩
  have k8 : gN m' 11 0 8 = gN m 11 0 8 := (key.1 11 8 (fun q => by
    rcases q with q | ⟨q, -⟩
    · exact (hS _ q).2.2 rfl rfl
    · omega)).1 0
  refine ⟨fun K i s hK => ?_, fun K i _ => key.2.1 K i, by rw [k8]; omega, by rw [k8]; omega⟩
  have z := key.1 K s (fun q => by
    rcases q with q | ⟨-, q⟩
    · have := hS _ q
      simp only at this
      omega
    · have := hS _ q
      simp only at this
      omega)
  exact ⟨z.1 i, z.2.1 i, z.2.2 i⟩
theorem RF.PZ {S : List (Nat × Nat)} {r : RV} {m' : MM} (h : RF S m (r, m')) (hS : ∀ q ∈ S, q.1 ≠ 44) (hP : PZ m) : PZ m' := by
  have key : ∀ K s, ¬ inS S K s → ∀ i, gN m' K i s = gN m K i s := fun K s hK => by
    cases r with
    | inl v => exact (h.1 K s hK).1
    | inr v => exact (h.1 K s hK).1
  intro k hk
  rw [key 44 k (fun q => by
    rcases q with q | ⟨-, q⟩
    · exact hS _ q rfl
    · exact hS _ q rfl)]
  exact hP k hk
theorem RF.LFm {S : List (Nat × Nat)} {v : Option MV} {m' : MM} (h : RF S m (.inl v, m')) (hS : S2ok S) : LFm m m' := by
  refine ⟨fun K i s hK => ?_, h.2.1, h.2.2.1, h.2.2.2.1, h.2.2.2.2⟩
  have z := h.1 K s (fun q => by
    rcases q with q | ⟨-, q⟩
    · have := hS _ q
      simp only at this
      omega
    · have := hS _ q
      simp only at this
      omega)
  exact ⟨z.1 i, z.2.1 i, z.2.2 i⟩
def S3ok (S : List (Nat × Nat)) : Prop := ∀ q ∈ S, q.1 ≠ 105 ∧ (q.1 = 12 → q.2 ≠ 19 ∧ q.2 ≠ 52)
def S4ok (S : List (Nat × Nat)) : Prop := ∀ q ∈ S, q.1 ≠ 83 ∧ q.1 ≠ 86 ∧ q.1 ≠ 87
theorem RF.CI {S : List (Nat × Nat)} {v : Option MV} {m' : MM} (h : RF S m (.inl v, m')) (hS : S3ok S) (hC : CI m) : CI m' := by
  have n1 : ∀ s, ¬ inS S 105 s := fun s q => by
    rcases q with q | ⟨-, q⟩
    · exact (hS _ q).1 rfl
    · exact (hS _ q).1 rfl
  have n2 : ¬ inS S 12 19 := fun q => by
    rcases q with q | ⟨q, -⟩
    · exact ((hS _ q).2 rfl).1 rfl
    · omega
  have n3 : ¬ inS S 12 52 := fun q => by
    rcases q with q | ⟨q, -⟩
    · exact ((hS _ q).2 rfl).2 rfl
    · omega
  intro j hj
  rw [(h.1 12 52 n3).1 0] at hj
  rw [(h.1 105 j (n1 j)).1 0, (h.1 12 19 n2).1 0]
  exact hC j hj
theorem RF.UI {S : List (Nat × Nat)} {v : Option MV} {m' : MM} (h : RF S m (.inl v, m')) (hS : S4ok S) (hC : UI m) : UI m' := by
  have n1 : ∀ s, ¬ inS S 83 s := fun s q => by
    rcases q with q | ⟨-, q⟩ <;> exact (hS _ q).1 rfl
  have n2 : ∀ s, ¬ inS S 86 s := fun s q => by
    rcases q with q | ⟨-, q⟩ <;> exact (hS _ q).2.1 rfl
  have n3 : ∀ s, ¬ inS S 87 s := fun s q => by
    rcases q with q | ⟨-, q⟩ <;> exact (hS _ q).2.2 rfl
  intro q hq
  rw [(h.1 83 q (n1 q)).1 0] at hq
  rw [(h.1 86 q (n2 q)).1 0, (h.1 87 q (n3 q)).1 0]
  exact hC q hq
/-- what holds before each call -/
def Inv (N : Nat) (m : MM) : Prop := (RR N m m) ∧
  (CI m) ∧
  (PZ m) ∧
  (UI m) ∧
  (gZ m 131 0 = some 1) ∧
  ((gA m : Int) ≤ 5000 + 10 * N + 2000 * gN m 11 0 8) ∧
  ((gB m : Int) ≤ 600000 + 60 * N + 300000 * gN m 11 0 8)
theorem Inv.rr {N : Nat} {m : MM} (h : Inv N m) : RR N m m := h.1
theorem Inv.ci {N : Nat} {m : MM} (h : Inv N m) : CI m := h.2.1
theorem Inv.pz {N : Nat} {m : MM} (h : Inv N m) : PZ m := h.2.2.1
theorem Inv.ui {N : Nat} {m : MM} (h : Inv N m) : UI m := h.2.2.2.1
theorem Inv.out {N : Nat} {m : MM} (h : Inv N m) : gZ m 131 0 = some 1 := h.2.2.2.2.1
theorem Inv.ga {N : Nat} {m : MM} (h : Inv N m) : (gA m : Int) ≤ 5000 + 10 * N + 2000 * gN m 11 0 8 := h.2.2.2.2.2.1
theorem Inv.gb {N : Nat} {m : MM} (h : Inv N m) : (gB m : Int) ≤ 600000 + 60 * N + 300000 * gN m 11 0 8 := h.2.2.2.2.2.2
/-- the model sees its own part untouched -/
theorem RR.mo {mc' mo : MM} (h : RR N m m) (hF : LFc m mc') (hmo : mo = mc' ∨ ∃ v, mo = sL mc' 131 0 0 v) : RR N m mo := by
  have hz : ∀ K i, gZ mo K i = gZ mc' K i := fun K i => by
    rcases hmo with rfl | ⟨v, rfl⟩ <;> rfl
  have he : ∀ K i s, K < 131 → eq3 mc' mo K i s := fun K i s hK => by
    rcases hmo with rfl | ⟨v, rfl⟩
    · exact eq3.rf
    · exact eq3.sL (by omega)
  exact h.scr2 (Nat.le_refl N) (fun _ _ => rfl) (fun K i k hK hk => by rw [hz, hF.2.1 K i hK]; exact hk) (fun _ => rfl) (fun _ _ _ _ _ _ => eq3.rf) (fun K i s hK _ => (hF.1 K i s (by omega)).tr (he K i s (by omega)))
theorem Inv.next {mc' mo mm' : MM} (hI : Inv N m) (hF : LFc m mc') (hmo : mo = mc' ∨ ∃ v, mo = sL mc' 131 0 0 v) (hm : LFm mo mm') (hR : RR (N + 1) mc' mm') (hP : PZ mc') (hC : CI mm') (hU : UI mm') : Inv (N + 1) mm' ∧ gL mm' 131 0 0 = gL mo 131 0 0 := by
  have hz : ∀ K i, gZ mo K i = gZ mc' K i := fun K i => by
    rcases hmo with rfl | ⟨v, rfl⟩ <;> rfl
  have hc : ∀ K, gC mo K = gC mc' K := fun K => by
    rcases hmo with rfl | ⟨v, rfl⟩ <;> rfl
  have ha : gA mo = gA mc' ∧ gB mo = gB mc' := by
    rcases hmo with rfl | ⟨v, rfl⟩ <;> exact ⟨rfl, rfl⟩
  have he : ∀ K i s, K ≠ 131 → eq3 mc' mo K i s := fun K i s hK => by
    rcases hmo with rfl | ⟨v, rfl⟩
    · exact eq3.rf
    · exact eq3.sL (by omega)
  have k8 : gN mm' 11 0 8 = gN mc' 11 0 8 := ((he 11 0 8 (by omega)).tr (hm.1 11 0 8 (by omega))).1
  have g1 := hF.2.2.1
  have g2 := hF.2.2.2
  have g3 := hI.ga
  have g4 := hI.gb
  refine ⟨⟨hR.scr2 (Nat.le_refl _) (fun K i => by rw [hm.2.1, hz]) (fun _ _ _ _ q => q) (fun K => by rw [hm.2.2.1, hc]) (fun K i s h1 h2 _ => (he K i s (by omega)).tr (hm.1 K i s (by omega))) (fun _ _ _ _ _ => eq3.rf), hC, fun k hk => ?_, hU, ?_, ?_, ?_⟩, (hm.1 131 0 0 (by omega)).2.1⟩
  · rw [((he 44 0 k (by omega)).tr (hm.1 44 0 k (by omega))).1]
    exact hP k hk
  · rw [hm.2.1, hz, hF.2.1 131 0 (by decide)]
    exact hI.out
  · rw [hm.2.2.2.1, ha.1, k8]
    push_cast
    omega
  · rw [hm.2.2.2.2, ha.2, k8]
    push_cast
    omega
end LAW
