/-! all pairs -/
theorem pr_fund : PR_fund JJ := by
  intro H h
  obtain ⟨R, f, a⟩ := h.2.2.2.2.2
  obtain ⟨r, H1, H2, e7, e8, t_tape, t_st, t_fu⟩ := q_fund h.2.2.1 h.2.1 f a
  refine ⟨r, H1, H2, e7, e8, ?_, t_st, t_tape, ?_, ?_, t_fu⟩
  · refine fr_rows h.1 (fun c k hd => ?_)
    exact (fr_X8_fund e8 c k (by unfold D_rows at hd; rcases hd with z | z | z | z | z | z <;> simp [z])).trans (fr_X7_fund e7 c k (by unfold D_rows at hd; rcases hd with z | z | z | z | z | z <;> simp [z]))
  · refine fr_trace h.2.2.2.1 (fun c k hd => ?_)
    exact (fr_X8_fund e8 c k (by unfold D_trace at hd; rcases hd with z | z | z | z <;> simp [z])).trans (fr_X7_fund e7 c k (by unfold D_trace at hd; rcases hd with z | z | z | z <;> simp [z]))
  · refine fr_img h.2.2.2.2.1 (fun c k hd => ?_)
    exact (fr_X8_fund e8 c k (by unfold D_img at hd; rcases hd with z | z | z | z | z | z | z | z | z | z | z | z | z | z <;> simp [z])).trans (fr_X7_fund e7 c k (by unfold D_img at hd; rcases hd with z | z | z | z | z | z | z | z | z | z | z | z | z | z <;> simp [z]))
theorem prs : PRS JJ := ⟨pr_row, pr_set, pr_copy, pr_drop, pr_feed, pr_fund, pr_fault, pr_undo, pr_give, pr_back, pr_pot, pr_become, pr_one, pr_gift, pr_nameOf, pr_root, pr_sum, pr_overlap, pr_term, pr_project, pr_stand, pr_paidIf, pr_best, pr_least, pr_missed, pr_ring, pr_halves, pr_sets, pr_byTurns, pr_who, pr_likely, pr_drawn, pr_image, pr_restore, pr_kind, pr_as, pr_ask, pr_trace, pr_count, pr_status⟩
