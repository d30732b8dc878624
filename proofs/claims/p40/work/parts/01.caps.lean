/-! What the statement asks of a whole run: at its end the heap has at most 927,816 cells and 6,312,655 slots more than at its start (nothing is given back on the way). The reference's digest() on a new object makes 1,949 cells and 15,577 slots; 512 of them are beyond both (REPORT.md, S3). -/
theorem tt_caps (h : Claimed_1_1) : Jvm.D.ArmFor flags0 classFile x code maxLocals ret World_1 tables_1 room_1 Calls_1 rest_1 Pre_1
    (fun _ _ _ s _ t => t.heap.size ≤ s.heap.size + 927816 ∧ ((t.heap.toList.drop s.heap.size).map (·.slots.size)).sum ≤ 6312655) := by
  intro l hfl hL hW p e ha hc hk s m args below hf hfit hheap happ hpre
  obtain ⟨k, o, h1, h2, h3, h4⟩ := h l hfl hL hW p e ha hc hk s m args below hf hfit hheap happ hpre
  obtain ⟨_, hF⟩ := h4
  obtain ⟨_, _, hs⟩ := hF
  exact ⟨k, o, h1, h2, h3, hs.2.2.1, hs.2.2.2.2.1⟩
theorem tt_beyond : 927816 < 512 * 1949 ∧ 6312655 < 512 * 15577 := by decide
