/-! the whole state, and the pairs -/
def Jfa (H : Hp) : Prop := ∃ R, FU H R ∧ AC H R
def JJ (H : Hp) : Prop := Jrows H ∧ Jst H ∧ Jtape H ∧ Jtrace H ∧ Jimg H ∧ Jfa H
def D_rows (c k : Nat) : Prop := c = 2 ∨ c = 3 ∨ c = 4 ∨ c = 61 ∨ c = 62 ∨ c = 63
def D_st (c k : Nat) : Prop := (c = 0 ∧ k = 9) ∨ (c = 0 ∧ k = 10) ∨ (c = 60 ∧ k = 1) ∨ (c = 60 ∧ k = 18)
def D_tape (c k : Nat) : Prop := (c = 5 ∧ k = 1) ∨ c = 6 ∨ (c = 60 ∧ k = 11) ∨ c = 68
def D_trace (c k : Nat) : Prop := (c = 58 ∧ k = 2) ∨ c = 59 ∨ (c = 60 ∧ k = 29) ∨ c = 77
def D_img (c k : Nat) : Prop := c = 20 ∨ c = 21 ∨ c = 22 ∨ c = 23 ∨ c = 24 ∨ c = 25 ∨ c = 26 ∨ c = 27 ∨ c = 28 ∨ c = 29 ∨ c = 30 ∨ c = 31 ∨ c = 75 ∨ c = 76
def D_fu (c k : Nat) : Prop := (c = 32 ∧ k = 5) ∨ (c = 32 ∧ k = 6) ∨ (c = 60 ∧ k = 9) ∨ c = 7 ∨ c = 8 ∨ c = 9 ∨ c = 10 ∨ c = 11 ∨ c = 12 ∨ c = 64 ∨ c = 33 ∨ c = 34 ∨ c = 35 ∨ c = 36 ∨ c = 37 ∨ c = 67
theorem fr_rows {H H2 : Hp} (h : Jrows H) (f : ∀ c k, D_rows c k → H2 c k = H c k) : Jrows H2 := h.fr f
theorem fr_st {H H2 : Hp} (h : Jst H) (f : ∀ c k, D_st c k → H2 c k = H c k) : Jst H2 := by
  refine ⟨?_, ?_⟩
  · rw [f 0 9 (by simp [D_st]), f 60 18 (by simp [D_st])]; exact h.1
  · rw [f 0 10 (by simp [D_st]), f 60 1 (by simp [D_st])]; exact h.2
theorem fr_tape {H H2 : Hp} (h : Jtape H) (f : ∀ c k, D_tape c k → H2 c k = H c k) : Jtape H2 := by
  obtain ⟨n, h1, h2, h3, h4⟩ := h
  refine ⟨n, h1, by rw [f 5 1 (by simp [D_tape]), h2], by rw [f 60 11 (by simp [D_tape]), h3], fun i hi => ?_⟩
  rw [f 6 i (by simp [D_tape]), f 68 i (by simp [D_tape])]; exact h4 i hi
theorem fr_trace {H H2 : Hp} (h : Jtrace H) (f : ∀ c k, D_trace c k → H2 c k = H c k) : Jtrace H2 := by
  obtain ⟨n, h1, h2, h3, h4⟩ := h
  refine ⟨n, h1, by rw [f 58 2 (by simp [D_trace]), h2], by rw [f 60 29 (by simp [D_trace]), h3], fun i hi => ?_⟩
  rw [f 59 i (by simp [D_trace]), f 77 i (by simp [D_trace])]; exact h4 i hi
theorem fr_img {H H2 : Hp} (h : Jimg H) (f : ∀ c k, D_img c k → H2 c k = H c k) : Jimg H2 := h.fr (fun c k hc => f c k (by unfold D_img; omega))
theorem fr_fu {H H2 : Hp} (h : Jfa H) (f : ∀ c k, D_fu c k → H2 c k = H c k) : Jfa H2 := by
  obtain ⟨R, h1, h2⟩ := h
  exact ⟨R, h1.fr (fun c k hc => f c k (by unfold D_fu; omega)), h2.fr (fun c k hc => f c k (by unfold D_fu; omega))⟩
theorem pr_row : PR_row JJ := by
  intro H h x1 x2 x3
  obtain ⟨R, f, a⟩ := h.2.2.2.2.2
  obtain ⟨r, H1, H2, e7, e8, t_rows, t_st⟩ := q_row h.1 h.2.1 x1 x2 x3
  refine ⟨r, H1, H2, e7, e8, t_rows, t_st, ?_, ?_, ?_, ?_⟩
  · refine fr_tape h.2.2.1 (fun c k hd => ?_)
    exact (fr_X8_row e8 c k (by unfold D_tape at hd; rcases hd with z | z | z | z <;> simp [z])).trans (fr_X7_row e7 c k (by unfold D_tape at hd; rcases hd with z | z | z | z <;> simp [z]))
  · refine fr_trace h.2.2.2.1 (fun c k hd => ?_)
    exact (fr_X8_row e8 c k (by unfold D_trace at hd; rcases hd with z | z | z | z <;> simp [z])).trans (fr_X7_row e7 c k (by unfold D_trace at hd; rcases hd with z | z | z | z <;> simp [z]))
  · refine fr_img h.2.2.2.2.1 (fun c k hd => ?_)
    exact (fr_X8_row e8 c k (by unfold D_img at hd; rcases hd with z | z | z | z | z | z | z | z | z | z | z | z | z | z <;> simp [z])).trans (fr_X7_row e7 c k (by unfold D_img at hd; rcases hd with z | z | z | z | z | z | z | z | z | z | z | z | z | z <;> simp [z]))
  · refine fr_fu h.2.2.2.2.2 (fun c k hd => ?_)
    exact (fr_X8_row e8 c k (by unfold D_fu at hd; rcases hd with z | z | z | z | z | z | z | z | z | z | z | z | z | z | z | z <;> simp [z])).trans (fr_X7_row e7 c k (by unfold D_fu at hd; rcases hd with z | z | z | z | z | z | z | z | z | z | z | z | z | z | z | z <;> simp [z]))
theorem pr_set : PR_set JJ := by
  intro H h x1 x2 x3
  obtain ⟨R, f, a⟩ := h.2.2.2.2.2
  obtain ⟨r, H1, H2, e7, e8, t_rows, t_st⟩ := q_set h.1 h.2.1 x1 x2 x3
  refine ⟨r, H1, H2, e7, e8, t_rows, t_st, ?_, ?_, ?_, ?_⟩
  · refine fr_tape h.2.2.1 (fun c k hd => ?_)
    exact (fr_X8_set e8 c k (by unfold D_tape at hd; rcases hd with z | z | z | z <;> simp [z])).trans (fr_X7_set e7 c k (by unfold D_tape at hd; rcases hd with z | z | z | z <;> simp [z]))
  · refine fr_trace h.2.2.2.1 (fun c k hd => ?_)
    exact (fr_X8_set e8 c k (by unfold D_trace at hd; rcases hd with z | z | z | z <;> simp [z])).trans (fr_X7_set e7 c k (by unfold D_trace at hd; rcases hd with z | z | z | z <;> simp [z]))
  · refine fr_img h.2.2.2.2.1 (fun c k hd => ?_)
    exact (fr_X8_set e8 c k (by unfold D_img at hd; rcases hd with z | z | z | z | z | z | z | z | z | z | z | z | z | z <;> simp [z])).trans (fr_X7_set e7 c k (by unfold D_img at hd; rcases hd with z | z | z | z | z | z | z | z | z | z | z | z | z | z <;> simp [z]))
  · refine fr_fu h.2.2.2.2.2 (fun c k hd => ?_)
    exact (fr_X8_set e8 c k (by unfold D_fu at hd; rcases hd with z | z | z | z | z | z | z | z | z | z | z | z | z | z | z | z <;> simp [z])).trans (fr_X7_set e7 c k (by unfold D_fu at hd; rcases hd with z | z | z | z | z | z | z | z | z | z | z | z | z | z | z | z <;> simp [z]))
theorem pr_copy : PR_copy JJ := by
  intro H h x1 x2 x3 x4 x5
  obtain ⟨R, f, a⟩ := h.2.2.2.2.2
  obtain ⟨r, H1, H2, e7, e8, t_rows, t_st⟩ := q_copy h.1 h.2.1 x1 x2 x3 x4 x5
  refine ⟨r, H1, H2, e7, e8, t_rows, t_st, ?_, ?_, ?_, ?_⟩
  · refine fr_tape h.2.2.1 (fun c k hd => ?_)
    exact (fr_X8_copy e8 c k (by unfold D_tape at hd; rcases hd with z | z | z | z <;> simp [z])).trans (fr_X7_copy e7 c k (by unfold D_tape at hd; rcases hd with z | z | z | z <;> simp [z]))
  · refine fr_trace h.2.2.2.1 (fun c k hd => ?_)
    exact (fr_X8_copy e8 c k (by unfold D_trace at hd; rcases hd with z | z | z | z <;> simp [z])).trans (fr_X7_copy e7 c k (by unfold D_trace at hd; rcases hd with z | z | z | z <;> simp [z]))
  · refine fr_img h.2.2.2.2.1 (fun c k hd => ?_)
    exact (fr_X8_copy e8 c k (by unfold D_img at hd; rcases hd with z | z | z | z | z | z | z | z | z | z | z | z | z | z <;> simp [z])).trans (fr_X7_copy e7 c k (by unfold D_img at hd; rcases hd with z | z | z | z | z | z | z | z | z | z | z | z | z | z <;> simp [z]))
  · refine fr_fu h.2.2.2.2.2 (fun c k hd => ?_)
    exact (fr_X8_copy e8 c k (by unfold D_fu at hd; rcases hd with z | z | z | z | z | z | z | z | z | z | z | z | z | z | z | z <;> simp [z])).trans (fr_X7_copy e7 c k (by unfold D_fu at hd; rcases hd with z | z | z | z | z | z | z | z | z | z | z | z | z | z | z | z <;> simp [z]))
theorem pr_drop : PR_drop JJ := by
  intro H h x1
  obtain ⟨R, f, a⟩ := h.2.2.2.2.2
  obtain ⟨r, H1, H2, e7, e8, t_rows, t_st⟩ := q_drop h.1 h.2.1 x1
  refine ⟨r, H1, H2, e7, e8, t_rows, t_st, ?_, ?_, ?_, ?_⟩
  · refine fr_tape h.2.2.1 (fun c k hd => ?_)
    exact (fr_X8_drop e8 c k (by unfold D_tape at hd; rcases hd with z | z | z | z <;> simp [z])).trans (fr_X7_drop e7 c k (by unfold D_tape at hd; rcases hd with z | z | z | z <;> simp [z]))
  · refine fr_trace h.2.2.2.1 (fun c k hd => ?_)
    exact (fr_X8_drop e8 c k (by unfold D_trace at hd; rcases hd with z | z | z | z <;> simp [z])).trans (fr_X7_drop e7 c k (by unfold D_trace at hd; rcases hd with z | z | z | z <;> simp [z]))
  · refine fr_img h.2.2.2.2.1 (fun c k hd => ?_)
    exact (fr_X8_drop e8 c k (by unfold D_img at hd; rcases hd with z | z | z | z | z | z | z | z | z | z | z | z | z | z <;> simp [z])).trans (fr_X7_drop e7 c k (by unfold D_img at hd; rcases hd with z | z | z | z | z | z | z | z | z | z | z | z | z | z <;> simp [z]))
  · refine fr_fu h.2.2.2.2.2 (fun c k hd => ?_)
    exact (fr_X8_drop e8 c k (by unfold D_fu at hd; rcases hd with z | z | z | z | z | z | z | z | z | z | z | z | z | z | z | z <;> simp [z])).trans (fr_X7_drop e7 c k (by unfold D_fu at hd; rcases hd with z | z | z | z | z | z | z | z | z | z | z | z | z | z | z | z <;> simp [z]))
theorem pr_feed : PR_feed JJ := by
  intro H h x1
  obtain ⟨R, f, a⟩ := h.2.2.2.2.2
  obtain ⟨r, H1, H2, e7, e8, t_tape⟩ := q_feed h.2.2.1 x1
  refine ⟨r, H1, H2, e7, e8, ?_, ?_, t_tape, ?_, ?_, ?_⟩
  · refine fr_rows h.1 (fun c k hd => ?_)
    exact (fr_X8_feed e8 c k (by unfold D_rows at hd; rcases hd with z | z | z | z | z | z <;> simp [z])).trans (fr_X7_feed e7 c k (by unfold D_rows at hd; rcases hd with z | z | z | z | z | z <;> simp [z]))
  · refine fr_st h.2.1 (fun c k hd => ?_)
    exact (fr_X8_feed e8 c k (by unfold D_st at hd; rcases hd with z | z | z | z <;> simp [z])).trans (fr_X7_feed e7 c k (by unfold D_st at hd; rcases hd with z | z | z | z <;> simp [z]))
  · refine fr_trace h.2.2.2.1 (fun c k hd => ?_)
    exact (fr_X8_feed e8 c k (by unfold D_trace at hd; rcases hd with z | z | z | z <;> simp [z])).trans (fr_X7_feed e7 c k (by unfold D_trace at hd; rcases hd with z | z | z | z <;> simp [z]))
  · refine fr_img h.2.2.2.2.1 (fun c k hd => ?_)
    exact (fr_X8_feed e8 c k (by unfold D_img at hd; rcases hd with z | z | z | z | z | z | z | z | z | z | z | z | z | z <;> simp [z])).trans (fr_X7_feed e7 c k (by unfold D_img at hd; rcases hd with z | z | z | z | z | z | z | z | z | z | z | z | z | z <;> simp [z]))
  · refine fr_fu h.2.2.2.2.2 (fun c k hd => ?_)
    exact (fr_X8_feed e8 c k (by unfold D_fu at hd; rcases hd with z | z | z | z | z | z | z | z | z | z | z | z | z | z | z | z <;> simp [z])).trans (fr_X7_feed e7 c k (by unfold D_fu at hd; rcases hd with z | z | z | z | z | z | z | z | z | z | z | z | z | z | z | z <;> simp [z]))
theorem pr_fault : PR_fault JJ := by
  intro H h
  obtain ⟨R, f, a⟩ := h.2.2.2.2.2
  obtain ⟨r, H2, e7, e8⟩ := q_fault h.2.1 
  refine ⟨r, H2, e7, e8, ?_, ?_, ?_, ?_, ?_, ?_⟩
  · refine fr_rows h.1 (fun c k hd => ?_)
    exact (fr_X8_fault e8 c k (by unfold D_rows at hd; rcases hd with z | z | z | z | z | z <;> simp [z]))
  · refine fr_st h.2.1 (fun c k hd => ?_)
    exact (fr_X8_fault e8 c k (by unfold D_st at hd; rcases hd with z | z | z | z <;> simp [z]))
  · refine fr_tape h.2.2.1 (fun c k hd => ?_)
    exact (fr_X8_fault e8 c k (by unfold D_tape at hd; rcases hd with z | z | z | z <;> simp [z]))
  · refine fr_trace h.2.2.2.1 (fun c k hd => ?_)
    exact (fr_X8_fault e8 c k (by unfold D_trace at hd; rcases hd with z | z | z | z <;> simp [z]))
  · refine fr_img h.2.2.2.2.1 (fun c k hd => ?_)
    exact (fr_X8_fault e8 c k (by unfold D_img at hd; rcases hd with z | z | z | z | z | z | z | z | z | z | z | z | z | z <;> simp [z]))
  · refine fr_fu h.2.2.2.2.2 (fun c k hd => ?_)
    exact (fr_X8_fault e8 c k (by unfold D_fu at hd; rcases hd with z | z | z | z | z | z | z | z | z | z | z | z | z | z | z | z <;> simp [z]))
theorem pr_undo : PR_undo JJ := by
  intro H h
  obtain ⟨R, f, a⟩ := h.2.2.2.2.2
  obtain ⟨r, H1, H2, e7, e8, t_fu⟩ := q_undo f a 
  refine ⟨r, H1, H2, e7, e8, ?_, ?_, ?_, ?_, ?_, t_fu⟩
  · refine fr_rows h.1 (fun c k hd => ?_)
    exact (fr_X8_undo e8 c k (by unfold D_rows at hd; rcases hd with z | z | z | z | z | z <;> simp [z])).trans (fr_X7_undo e7 c k (by unfold D_rows at hd; rcases hd with z | z | z | z | z | z <;> simp [z]))
  · refine fr_st h.2.1 (fun c k hd => ?_)
    exact (fr_X8_undo e8 c k (by unfold D_st at hd; rcases hd with z | z | z | z <;> simp [z])).trans (fr_X7_undo e7 c k (by unfold D_st at hd; rcases hd with z | z | z | z <;> simp [z]))
  · refine fr_tape h.2.2.1 (fun c k hd => ?_)
    exact (fr_X8_undo e8 c k (by unfold D_tape at hd; rcases hd with z | z | z | z <;> simp [z])).trans (fr_X7_undo e7 c k (by unfold D_tape at hd; rcases hd with z | z | z | z <;> simp [z]))
  · refine fr_trace h.2.2.2.1 (fun c k hd => ?_)
    exact (fr_X8_undo e8 c k (by unfold D_trace at hd; rcases hd with z | z | z | z <;> simp [z])).trans (fr_X7_undo e7 c k (by unfold D_trace at hd; rcases hd with z | z | z | z <;> simp [z]))
  · refine fr_img h.2.2.2.2.1 (fun c k hd => ?_)
    exact (fr_X8_undo e8 c k (by unfold D_img at hd; rcases hd with z | z | z | z | z | z | z | z | z | z | z | z | z | z <;> simp [z])).trans (fr_X7_undo e7 c k (by unfold D_img at hd; rcases hd with z | z | z | z | z | z | z | z | z | z | z | z | z | z <;> simp [z]))
theorem pr_give : PR_give JJ := by
  intro H h x1 x2 x3
  obtain ⟨R, f, a⟩ := h.2.2.2.2.2
  obtain ⟨r, H1, H2, e7, e8, t_fu⟩ := q_give f a x1 x2 x3
  refine ⟨r, H1, H2, e7, e8, ?_, ?_, ?_, ?_, ?_, t_fu⟩
  · refine fr_rows h.1 (fun c k hd => ?_)
    exact (fr_X8_give e8 c k (by unfold D_rows at hd; rcases hd with z | z | z | z | z | z <;> simp [z])).trans (fr_X7_give e7 c k (by unfold D_rows at hd; rcases hd with z | z | z | z | z | z <;> simp [z]))
  · refine fr_st h.2.1 (fun c k hd => ?_)
    exact (fr_X8_give e8 c k (by unfold D_st at hd; rcases hd with z | z | z | z <;> simp [z])).trans (fr_X7_give e7 c k (by unfold D_st at hd; rcases hd with z | z | z | z <;> simp [z]))
  · refine fr_tape h.2.2.1 (fun c k hd => ?_)
    exact (fr_X8_give e8 c k (by unfold D_tape at hd; rcases hd with z | z | z | z <;> simp [z])).trans (fr_X7_give e7 c k (by unfold D_tape at hd; rcases hd with z | z | z | z <;> simp [z]))
  · refine fr_trace h.2.2.2.1 (fun c k hd => ?_)
    exact (fr_X8_give e8 c k (by unfold D_trace at hd; rcases hd with z | z | z | z <;> simp [z])).trans (fr_X7_give e7 c k (by unfold D_trace at hd; rcases hd with z | z | z | z <;> simp [z]))
  · refine fr_img h.2.2.2.2.1 (fun c k hd => ?_)
    exact (fr_X8_give e8 c k (by unfold D_img at hd; rcases hd with z | z | z | z | z | z | z | z | z | z | z | z | z | z <;> simp [z])).trans (fr_X7_give e7 c k (by unfold D_img at hd; rcases hd with z | z | z | z | z | z | z | z | z | z | z | z | z | z <;> simp [z]))
theorem pr_back : PR_back JJ := by
  intro H h x1
  obtain ⟨R, f, a⟩ := h.2.2.2.2.2
  obtain ⟨r, H1, H2, e7, e8, t_fu⟩ := q_back f a x1
  refine ⟨r, H1, H2, e7, e8, ?_, ?_, ?_, ?_, ?_, t_fu⟩
  · refine fr_rows h.1 (fun c k hd => ?_)
    exact (fr_X8_back e8 c k (by unfold D_rows at hd; rcases hd with z | z | z | z | z | z <;> simp [z])).trans (fr_X7_back e7 c k (by unfold D_rows at hd; rcases hd with z | z | z | z | z | z <;> simp [z]))
  · refine fr_st h.2.1 (fun c k hd => ?_)
    exact (fr_X8_back e8 c k (by unfold D_st at hd; rcases hd with z | z | z | z <;> simp [z])).trans (fr_X7_back e7 c k (by unfold D_st at hd; rcases hd with z | z | z | z <;> simp [z]))
  · refine fr_tape h.2.2.1 (fun c k hd => ?_)
    exact (fr_X8_back e8 c k (by unfold D_tape at hd; rcases hd with z | z | z | z <;> simp [z])).trans (fr_X7_back e7 c k (by unfold D_tape at hd; rcases hd with z | z | z | z <;> simp [z]))
  · refine fr_trace h.2.2.2.1 (fun c k hd => ?_)
    exact (fr_X8_back e8 c k (by unfold D_trace at hd; rcases hd with z | z | z | z <;> simp [z])).trans (fr_X7_back e7 c k (by unfold D_trace at hd; rcases hd with z | z | z | z <;> simp [z]))
  · refine fr_img h.2.2.2.2.1 (fun c k hd => ?_)
    exact (fr_X8_back e8 c k (by unfold D_img at hd; rcases hd with z | z | z | z | z | z | z | z | z | z | z | z | z | z <;> simp [z])).trans (fr_X7_back e7 c k (by unfold D_img at hd; rcases hd with z | z | z | z | z | z | z | z | z | z | z | z | z | z <;> simp [z]))
theorem pr_pot : PR_pot JJ := by
  intro H h x1
  obtain ⟨R, f, a⟩ := h.2.2.2.2.2
  obtain ⟨r, H1, H2, e7, e8, t_fu⟩ := q_pot f a x1
  refine ⟨r, H1, H2, e7, e8, ?_, ?_, ?_, ?_, ?_, t_fu⟩
  · refine fr_rows h.1 (fun c k hd => ?_)
    exact (fr_X8_pot e8 c k (by unfold D_rows at hd; rcases hd with z | z | z | z | z | z <;> simp [z])).trans (fr_X7_pot e7 c k (by unfold D_rows at hd; rcases hd with z | z | z | z | z | z <;> simp [z]))
  · refine fr_st h.2.1 (fun c k hd => ?_)
    exact (fr_X8_pot e8 c k (by unfold D_st at hd; rcases hd with z | z | z | z <;> simp [z])).trans (fr_X7_pot e7 c k (by unfold D_st at hd; rcases hd with z | z | z | z <;> simp [z]))
  · refine fr_tape h.2.2.1 (fun c k hd => ?_)
    exact (fr_X8_pot e8 c k (by unfold D_tape at hd; rcases hd with z | z | z | z <;> simp [z])).trans (fr_X7_pot e7 c k (by unfold D_tape at hd; rcases hd with z | z | z | z <;> simp [z]))
  · refine fr_trace h.2.2.2.1 (fun c k hd => ?_)
    exact (fr_X8_pot e8 c k (by unfold D_trace at hd; rcases hd with z | z | z | z <;> simp [z])).trans (fr_X7_pot e7 c k (by unfold D_trace at hd; rcases hd with z | z | z | z <;> simp [z]))
  · refine fr_img h.2.2.2.2.1 (fun c k hd => ?_)
    exact (fr_X8_pot e8 c k (by unfold D_img at hd; rcases hd with z | z | z | z | z | z | z | z | z | z | z | z | z | z <;> simp [z])).trans (fr_X7_pot e7 c k (by unfold D_img at hd; rcases hd with z | z | z | z | z | z | z | z | z | z | z | z | z | z <;> simp [z]))
theorem pr_become : PR_become JJ := by
  intro H h x1 x2
  obtain ⟨R, f, a⟩ := h.2.2.2.2.2
  obtain ⟨r, H1, H2, e7, e8, t_fu⟩ := q_become f a x1 x2
  refine ⟨r, H1, H2, e7, e8, ?_, ?_, ?_, ?_, ?_, t_fu⟩
  · refine fr_rows h.1 (fun c k hd => ?_)
    exact (fr_X8_become e8 c k (by unfold D_rows at hd; rcases hd with z | z | z | z | z | z <;> simp [z])).trans (fr_X7_become e7 c k (by unfold D_rows at hd; rcases hd with z | z | z | z | z | z <;> simp [z]))
  · refine fr_st h.2.1 (fun c k hd => ?_)
    exact (fr_X8_become e8 c k (by unfold D_st at hd; rcases hd with z | z | z | z <;> simp [z])).trans (fr_X7_become e7 c k (by unfold D_st at hd; rcases hd with z | z | z | z <;> simp [z]))
  · refine fr_tape h.2.2.1 (fun c k hd => ?_)
    exact (fr_X8_become e8 c k (by unfold D_tape at hd; rcases hd with z | z | z | z <;> simp [z])).trans (fr_X7_become e7 c k (by unfold D_tape at hd; rcases hd with z | z | z | z <;> simp [z]))
  · refine fr_trace h.2.2.2.1 (fun c k hd => ?_)
    exact (fr_X8_become e8 c k (by unfold D_trace at hd; rcases hd with z | z | z | z <;> simp [z])).trans (fr_X7_become e7 c k (by unfold D_trace at hd; rcases hd with z | z | z | z <;> simp [z]))
  · refine fr_img h.2.2.2.2.1 (fun c k hd => ?_)
    exact (fr_X8_become e8 c k (by unfold D_img at hd; rcases hd with z | z | z | z | z | z | z | z | z | z | z | z | z | z <;> simp [z])).trans (fr_X7_become e7 c k (by unfold D_img at hd; rcases hd with z | z | z | z | z | z | z | z | z | z | z | z | z | z <;> simp [z]))
theorem pr_one : PR_one JJ := by
  intro H h x1 x2
  obtain ⟨R, f, a⟩ := h.2.2.2.2.2
  obtain ⟨r, H1, H2, e7, e8, t_fu⟩ := q_one f a x1 x2
  refine ⟨r, H1, H2, e7, e8, ?_, ?_, ?_, ?_, ?_, t_fu⟩
  · refine fr_rows h.1 (fun c k hd => ?_)
    exact (fr_X8_one e8 c k (by unfold D_rows at hd; rcases hd with z | z | z | z | z | z <;> simp [z])).trans (fr_X7_one e7 c k (by unfold D_rows at hd; rcases hd with z | z | z | z | z | z <;> simp [z]))
  · refine fr_st h.2.1 (fun c k hd => ?_)
    exact (fr_X8_one e8 c k (by unfold D_st at hd; rcases hd with z | z | z | z <;> simp [z])).trans (fr_X7_one e7 c k (by unfold D_st at hd; rcases hd with z | z | z | z <;> simp [z]))
  · refine fr_tape h.2.2.1 (fun c k hd => ?_)
    exact (fr_X8_one e8 c k (by unfold D_tape at hd; rcases hd with z | z | z | z <;> simp [z])).trans (fr_X7_one e7 c k (by unfold D_tape at hd; rcases hd with z | z | z | z <;> simp [z]))
  · refine fr_trace h.2.2.2.1 (fun c k hd => ?_)
    exact (fr_X8_one e8 c k (by unfold D_trace at hd; rcases hd with z | z | z | z <;> simp [z])).trans (fr_X7_one e7 c k (by unfold D_trace at hd; rcases hd with z | z | z | z <;> simp [z]))
  · refine fr_img h.2.2.2.2.1 (fun c k hd => ?_)
    exact (fr_X8_one e8 c k (by unfold D_img at hd; rcases hd with z | z | z | z | z | z | z | z | z | z | z | z | z | z <;> simp [z])).trans (fr_X7_one e7 c k (by unfold D_img at hd; rcases hd with z | z | z | z | z | z | z | z | z | z | z | z | z | z <;> simp [z]))
theorem pr_gift : PR_gift JJ := by
  intro H h x1 x2
  obtain ⟨R, f, a⟩ := h.2.2.2.2.2
  obtain ⟨r, H2, e7, e8⟩ := q_gift f x1 x2
  refine ⟨r, H2, e7, e8, ?_, ?_, ?_, ?_, ?_, ?_⟩
  · refine fr_rows h.1 (fun c k hd => ?_)
    exact (fr_X8_gift e8 c k (by unfold D_rows at hd; rcases hd with z | z | z | z | z | z <;> simp [z]))
  · refine fr_st h.2.1 (fun c k hd => ?_)
    exact (fr_X8_gift e8 c k (by unfold D_st at hd; rcases hd with z | z | z | z <;> simp [z]))
  · refine fr_tape h.2.2.1 (fun c k hd => ?_)
    exact (fr_X8_gift e8 c k (by unfold D_tape at hd; rcases hd with z | z | z | z <;> simp [z]))
  · refine fr_trace h.2.2.2.1 (fun c k hd => ?_)
    exact (fr_X8_gift e8 c k (by unfold D_trace at hd; rcases hd with z | z | z | z <;> simp [z]))
  · refine fr_img h.2.2.2.2.1 (fun c k hd => ?_)
    exact (fr_X8_gift e8 c k (by unfold D_img at hd; rcases hd with z | z | z | z | z | z | z | z | z | z | z | z | z | z <;> simp [z]))
  · refine fr_fu h.2.2.2.2.2 (fun c k hd => ?_)
    exact (fr_X8_gift e8 c k (by unfold D_fu at hd; rcases hd with z | z | z | z | z | z | z | z | z | z | z | z | z | z | z | z <;> simp [z]))
theorem pr_nameOf : PR_nameOf JJ := by
  intro H h x1
  obtain ⟨R, f, a⟩ := h.2.2.2.2.2
  obtain ⟨r, H2, e7, e8⟩ := q_nameOf f x1
  refine ⟨r, H2, e7, e8, ?_, ?_, ?_, ?_, ?_, ?_⟩
  · refine fr_rows h.1 (fun c k hd => ?_)
    exact (fr_X8_nameOf e8 c k (by unfold D_rows at hd; rcases hd with z | z | z | z | z | z <;> simp [z]))
  · refine fr_st h.2.1 (fun c k hd => ?_)
    exact (fr_X8_nameOf e8 c k (by unfold D_st at hd; rcases hd with z | z | z | z <;> simp [z]))
  · refine fr_tape h.2.2.1 (fun c k hd => ?_)
    exact (fr_X8_nameOf e8 c k (by unfold D_tape at hd; rcases hd with z | z | z | z <;> simp [z]))
  · refine fr_trace h.2.2.2.1 (fun c k hd => ?_)
    exact (fr_X8_nameOf e8 c k (by unfold D_trace at hd; rcases hd with z | z | z | z <;> simp [z]))
  · refine fr_img h.2.2.2.2.1 (fun c k hd => ?_)
    exact (fr_X8_nameOf e8 c k (by unfold D_img at hd; rcases hd with z | z | z | z | z | z | z | z | z | z | z | z | z | z <;> simp [z]))
  · refine fr_fu h.2.2.2.2.2 (fun c k hd => ?_)
    exact (fr_X8_nameOf e8 c k (by unfold D_fu at hd; rcases hd with z | z | z | z | z | z | z | z | z | z | z | z | z | z | z | z <;> simp [z]))
theorem pr_root : PR_root JJ := by
  intro H h x1
  obtain ⟨R, f, a⟩ := h.2.2.2.2.2
  obtain ⟨r, H2, e7, e8⟩ := q_root H x1
  refine ⟨r, H2, e7, e8, ?_, ?_, ?_, ?_, ?_, ?_⟩
  · refine fr_rows h.1 (fun c k hd => ?_)
    exact (fr_X8_root e8 c k (by unfold D_rows at hd; rcases hd with z | z | z | z | z | z <;> simp [z]))
  · refine fr_st h.2.1 (fun c k hd => ?_)
    exact (fr_X8_root e8 c k (by unfold D_st at hd; rcases hd with z | z | z | z <;> simp [z]))
  · refine fr_tape h.2.2.1 (fun c k hd => ?_)
    exact (fr_X8_root e8 c k (by unfold D_tape at hd; rcases hd with z | z | z | z <;> simp [z]))
  · refine fr_trace h.2.2.2.1 (fun c k hd => ?_)
    exact (fr_X8_root e8 c k (by unfold D_trace at hd; rcases hd with z | z | z | z <;> simp [z]))
  · refine fr_img h.2.2.2.2.1 (fun c k hd => ?_)
    exact (fr_X8_root e8 c k (by unfold D_img at hd; rcases hd with z | z | z | z | z | z | z | z | z | z | z | z | z | z <;> simp [z]))
  · refine fr_fu h.2.2.2.2.2 (fun c k hd => ?_)
    exact (fr_X8_root e8 c k (by unfold D_fu at hd; rcases hd with z | z | z | z | z | z | z | z | z | z | z | z | z | z | z | z <;> simp [z]))
theorem pr_sum : PR_sum JJ := by
  intro H h x1 x2
  obtain ⟨R, f, a⟩ := h.2.2.2.2.2
  obtain ⟨r, H1, H2, e7, e8⟩ := q_sum f x1 x2
  refine ⟨r, H1, H2, e7, e8, ?_, ?_, ?_, ?_, ?_, ?_⟩
  · refine fr_rows h.1 (fun c k hd => ?_)
    exact (fr_X8_sum e8 c k (by unfold D_rows at hd; rcases hd with z | z | z | z | z | z <;> simp [z])).trans (fr_X7_sum e7 c k (by unfold D_rows at hd; rcases hd with z | z | z | z | z | z <;> simp [z]))
  · refine fr_st h.2.1 (fun c k hd => ?_)
    exact (fr_X8_sum e8 c k (by unfold D_st at hd; rcases hd with z | z | z | z <;> simp [z])).trans (fr_X7_sum e7 c k (by unfold D_st at hd; rcases hd with z | z | z | z <;> simp [z]))
  · refine fr_tape h.2.2.1 (fun c k hd => ?_)
    exact (fr_X8_sum e8 c k (by unfold D_tape at hd; rcases hd with z | z | z | z <;> simp [z])).trans (fr_X7_sum e7 c k (by unfold D_tape at hd; rcases hd with z | z | z | z <;> simp [z]))
  · refine fr_trace h.2.2.2.1 (fun c k hd => ?_)
    exact (fr_X8_sum e8 c k (by unfold D_trace at hd; rcases hd with z | z | z | z <;> simp [z])).trans (fr_X7_sum e7 c k (by unfold D_trace at hd; rcases hd with z | z | z | z <;> simp [z]))
  · refine fr_img h.2.2.2.2.1 (fun c k hd => ?_)
    exact (fr_X8_sum e8 c k (by unfold D_img at hd; rcases hd with z | z | z | z | z | z | z | z | z | z | z | z | z | z <;> simp [z])).trans (fr_X7_sum e7 c k (by unfold D_img at hd; rcases hd with z | z | z | z | z | z | z | z | z | z | z | z | z | z <;> simp [z]))
  · refine fr_fu h.2.2.2.2.2 (fun c k hd => ?_)
    exact (fr_X8_sum e8 c k (by unfold D_fu at hd; rcases hd with z | z | z | z | z | z | z | z | z | z | z | z | z | z | z | z <;> simp [z])).trans (fr_X7_sum e7 c k (by unfold D_fu at hd; rcases hd with z | z | z | z | z | z | z | z | z | z | z | z | z | z | z | z <;> simp [z]))
theorem pr_overlap : PR_overlap JJ := by
  intro H h x1 x2
  obtain ⟨R, f, a⟩ := h.2.2.2.2.2
  obtain ⟨r, H1, H2, e7, e8⟩ := q_overlap f x1 x2
  refine ⟨r, H1, H2, e7, e8, ?_, ?_, ?_, ?_, ?_, ?_⟩
  · refine fr_rows h.1 (fun c k hd => ?_)
    exact (fr_X8_overlap e8 c k (by unfold D_rows at hd; rcases hd with z | z | z | z | z | z <;> simp [z])).trans (fr_X7_overlap e7 c k (by unfold D_rows at hd; rcases hd with z | z | z | z | z | z <;> simp [z]))
  · refine fr_st h.2.1 (fun c k hd => ?_)
    exact (fr_X8_overlap e8 c k (by unfold D_st at hd; rcases hd with z | z | z | z <;> simp [z])).trans (fr_X7_overlap e7 c k (by unfold D_st at hd; rcases hd with z | z | z | z <;> simp [z]))
  · refine fr_tape h.2.2.1 (fun c k hd => ?_)
    exact (fr_X8_overlap e8 c k (by unfold D_tape at hd; rcases hd with z | z | z | z <;> simp [z])).trans (fr_X7_overlap e7 c k (by unfold D_tape at hd; rcases hd with z | z | z | z <;> simp [z]))
  · refine fr_trace h.2.2.2.1 (fun c k hd => ?_)
    exact (fr_X8_overlap e8 c k (by unfold D_trace at hd; rcases hd with z | z | z | z <;> simp [z])).trans (fr_X7_overlap e7 c k (by unfold D_trace at hd; rcases hd with z | z | z | z <;> simp [z]))
  · refine fr_img h.2.2.2.2.1 (fun c k hd => ?_)
    exact (fr_X8_overlap e8 c k (by unfold D_img at hd; rcases hd with z | z | z | z | z | z | z | z | z | z | z | z | z | z <;> simp [z])).trans (fr_X7_overlap e7 c k (by unfold D_img at hd; rcases hd with z | z | z | z | z | z | z | z | z | z | z | z | z | z <;> simp [z]))
  · refine fr_fu h.2.2.2.2.2 (fun c k hd => ?_)
    exact (fr_X8_overlap e8 c k (by unfold D_fu at hd; rcases hd with z | z | z | z | z | z | z | z | z | z | z | z | z | z | z | z <;> simp [z])).trans (fr_X7_overlap e7 c k (by unfold D_fu at hd; rcases hd with z | z | z | z | z | z | z | z | z | z | z | z | z | z | z | z <;> simp [z]))
theorem pr_term : PR_term JJ := by
  intro H h x1 x2 x3
  obtain ⟨R, f, a⟩ := h.2.2.2.2.2
  obtain ⟨r, H1, H2, e7, e8⟩ := q_term f x1 x2 x3
  refine ⟨r, H1, H2, e7, e8, ?_, ?_, ?_, ?_, ?_, ?_⟩
  · refine fr_rows h.1 (fun c k hd => ?_)
    exact (fr_X8_term e8 c k (by unfold D_rows at hd; rcases hd with z | z | z | z | z | z <;> simp [z])).trans (fr_X7_term e7 c k (by unfold D_rows at hd; rcases hd with z | z | z | z | z | z <;> simp [z]))
  · refine fr_st h.2.1 (fun c k hd => ?_)
    exact (fr_X8_term e8 c k (by unfold D_st at hd; rcases hd with z | z | z | z <;> simp [z])).trans (fr_X7_term e7 c k (by unfold D_st at hd; rcases hd with z | z | z | z <;> simp [z]))
  · refine fr_tape h.2.2.1 (fun c k hd => ?_)
    exact (fr_X8_term e8 c k (by unfold D_tape at hd; rcases hd with z | z | z | z <;> simp [z])).trans (fr_X7_term e7 c k (by unfold D_tape at hd; rcases hd with z | z | z | z <;> simp [z]))
  · refine fr_trace h.2.2.2.1 (fun c k hd => ?_)
    exact (fr_X8_term e8 c k (by unfold D_trace at hd; rcases hd with z | z | z | z <;> simp [z])).trans (fr_X7_term e7 c k (by unfold D_trace at hd; rcases hd with z | z | z | z <;> simp [z]))
  · refine fr_img h.2.2.2.2.1 (fun c k hd => ?_)
    exact (fr_X8_term e8 c k (by unfold D_img at hd; rcases hd with z | z | z | z | z | z | z | z | z | z | z | z | z | z <;> simp [z])).trans (fr_X7_term e7 c k (by unfold D_img at hd; rcases hd with z | z | z | z | z | z | z | z | z | z | z | z | z | z <;> simp [z]))
  · refine fr_fu h.2.2.2.2.2 (fun c k hd => ?_)
    exact (fr_X8_term e8 c k (by unfold D_fu at hd; rcases hd with z | z | z | z | z | z | z | z | z | z | z | z | z | z | z | z <;> simp [z])).trans (fr_X7_term e7 c k (by unfold D_fu at hd; rcases hd with z | z | z | z | z | z | z | z | z | z | z | z | z | z | z | z <;> simp [z]))
theorem pr_project : PR_project JJ := by
  intro H h x1 x2
  obtain ⟨R, f, a⟩ := h.2.2.2.2.2
  obtain ⟨r, H1, H2, e7, e8⟩ := q_project f x1 x2
  refine ⟨r, H1, H2, e7, e8, ?_, ?_, ?_, ?_, ?_, ?_⟩
  · refine fr_rows h.1 (fun c k hd => ?_)
    exact (fr_X8_project e8 c k (by unfold D_rows at hd; rcases hd with z | z | z | z | z | z <;> simp [z])).trans (fr_X7_project e7 c k (by unfold D_rows at hd; rcases hd with z | z | z | z | z | z <;> simp [z]))
  · refine fr_st h.2.1 (fun c k hd => ?_)
    exact (fr_X8_project e8 c k (by unfold D_st at hd; rcases hd with z | z | z | z <;> simp [z])).trans (fr_X7_project e7 c k (by unfold D_st at hd; rcases hd with z | z | z | z <;> simp [z]))
  · refine fr_tape h.2.2.1 (fun c k hd => ?_)
    exact (fr_X8_project e8 c k (by unfold D_tape at hd; rcases hd with z | z | z | z <;> simp [z])).trans (fr_X7_project e7 c k (by unfold D_tape at hd; rcases hd with z | z | z | z <;> simp [z]))
  · refine fr_trace h.2.2.2.1 (fun c k hd => ?_)
    exact (fr_X8_project e8 c k (by unfold D_trace at hd; rcases hd with z | z | z | z <;> simp [z])).trans (fr_X7_project e7 c k (by unfold D_trace at hd; rcases hd with z | z | z | z <;> simp [z]))
  · refine fr_img h.2.2.2.2.1 (fun c k hd => ?_)
    exact (fr_X8_project e8 c k (by unfold D_img at hd; rcases hd with z | z | z | z | z | z | z | z | z | z | z | z | z | z <;> simp [z])).trans (fr_X7_project e7 c k (by unfold D_img at hd; rcases hd with z | z | z | z | z | z | z | z | z | z | z | z | z | z <;> simp [z]))
  · refine fr_fu h.2.2.2.2.2 (fun c k hd => ?_)
    exact (fr_X8_project e8 c k (by unfold D_fu at hd; rcases hd with z | z | z | z | z | z | z | z | z | z | z | z | z | z | z | z <;> simp [z])).trans (fr_X7_project e7 c k (by unfold D_fu at hd; rcases hd with z | z | z | z | z | z | z | z | z | z | z | z | z | z | z | z <;> simp [z]))
theorem pr_stand : PR_stand JJ := by
  intro H h x1
  obtain ⟨R, f, a⟩ := h.2.2.2.2.2
  obtain ⟨r, H1, H2, e7, e8⟩ := q_stand f x1
  refine ⟨r, H1, H2, e7, e8, ?_, ?_, ?_, ?_, ?_, ?_⟩
  · refine fr_rows h.1 (fun c k hd => ?_)
    exact (fr_X8_stand e8 c k (by unfold D_rows at hd; rcases hd with z | z | z | z | z | z <;> simp [z])).trans (fr_X7_stand e7 c k (by unfold D_rows at hd; rcases hd with z | z | z | z | z | z <;> simp [z]))
  · refine fr_st h.2.1 (fun c k hd => ?_)
    exact (fr_X8_stand e8 c k (by unfold D_st at hd; rcases hd with z | z | z | z <;> simp [z])).trans (fr_X7_stand e7 c k (by unfold D_st at hd; rcases hd with z | z | z | z <;> simp [z]))
  · refine fr_tape h.2.2.1 (fun c k hd => ?_)
    exact (fr_X8_stand e8 c k (by unfold D_tape at hd; rcases hd with z | z | z | z <;> simp [z])).trans (fr_X7_stand e7 c k (by unfold D_tape at hd; rcases hd with z | z | z | z <;> simp [z]))
  · refine fr_trace h.2.2.2.1 (fun c k hd => ?_)
    exact (fr_X8_stand e8 c k (by unfold D_trace at hd; rcases hd with z | z | z | z <;> simp [z])).trans (fr_X7_stand e7 c k (by unfold D_trace at hd; rcases hd with z | z | z | z <;> simp [z]))
  · refine fr_img h.2.2.2.2.1 (fun c k hd => ?_)
    exact (fr_X8_stand e8 c k (by unfold D_img at hd; rcases hd with z | z | z | z | z | z | z | z | z | z | z | z | z | z <;> simp [z])).trans (fr_X7_stand e7 c k (by unfold D_img at hd; rcases hd with z | z | z | z | z | z | z | z | z | z | z | z | z | z <;> simp [z]))
  · refine fr_fu h.2.2.2.2.2 (fun c k hd => ?_)
    exact (fr_X8_stand e8 c k (by unfold D_fu at hd; rcases hd with z | z | z | z | z | z | z | z | z | z | z | z | z | z | z | z <;> simp [z])).trans (fr_X7_stand e7 c k (by unfold D_fu at hd; rcases hd with z | z | z | z | z | z | z | z | z | z | z | z | z | z | z | z <;> simp [z]))
theorem pr_paidIf : PR_paidIf JJ := by
  intro H h x1 x2 x3 x4
  obtain ⟨R, f, a⟩ := h.2.2.2.2.2
  obtain ⟨r, H1, H2, e7, e8⟩ := q_paidIf f x1 x2 x3 x4
  refine ⟨r, H1, H2, e7, e8, ?_, ?_, ?_, ?_, ?_, ?_⟩
  · refine fr_rows h.1 (fun c k hd => ?_)
    exact (fr_X8_paidIf e8 c k (by unfold D_rows at hd; rcases hd with z | z | z | z | z | z <;> simp [z])).trans (fr_X7_paidIf e7 c k (by unfold D_rows at hd; rcases hd with z | z | z | z | z | z <;> simp [z]))
  · refine fr_st h.2.1 (fun c k hd => ?_)
    exact (fr_X8_paidIf e8 c k (by unfold D_st at hd; rcases hd with z | z | z | z <;> simp [z])).trans (fr_X7_paidIf e7 c k (by unfold D_st at hd; rcases hd with z | z | z | z <;> simp [z]))
  · refine fr_tape h.2.2.1 (fun c k hd => ?_)
    exact (fr_X8_paidIf e8 c k (by unfold D_tape at hd; rcases hd with z | z | z | z <;> simp [z])).trans (fr_X7_paidIf e7 c k (by unfold D_tape at hd; rcases hd with z | z | z | z <;> simp [z]))
  · refine fr_trace h.2.2.2.1 (fun c k hd => ?_)
    exact (fr_X8_paidIf e8 c k (by unfold D_trace at hd; rcases hd with z | z | z | z <;> simp [z])).trans (fr_X7_paidIf e7 c k (by unfold D_trace at hd; rcases hd with z | z | z | z <;> simp [z]))
  · refine fr_img h.2.2.2.2.1 (fun c k hd => ?_)
    exact (fr_X8_paidIf e8 c k (by unfold D_img at hd; rcases hd with z | z | z | z | z | z | z | z | z | z | z | z | z | z <;> simp [z])).trans (fr_X7_paidIf e7 c k (by unfold D_img at hd; rcases hd with z | z | z | z | z | z | z | z | z | z | z | z | z | z <;> simp [z]))
  · refine fr_fu h.2.2.2.2.2 (fun c k hd => ?_)
    exact (fr_X8_paidIf e8 c k (by unfold D_fu at hd; rcases hd with z | z | z | z | z | z | z | z | z | z | z | z | z | z | z | z <;> simp [z])).trans (fr_X7_paidIf e7 c k (by unfold D_fu at hd; rcases hd with z | z | z | z | z | z | z | z | z | z | z | z | z | z | z | z <;> simp [z]))
theorem pr_best : PR_best JJ := by
  intro H h x1 x2 x3
  obtain ⟨R, f, a⟩ := h.2.2.2.2.2
  obtain ⟨r, H1, H2, e7, e8⟩ := q_best f x1 x2 x3
  refine ⟨r, H1, H2, e7, e8, ?_, ?_, ?_, ?_, ?_, ?_⟩
  · refine fr_rows h.1 (fun c k hd => ?_)
    exact (fr_X8_best e8 c k (by unfold D_rows at hd; rcases hd with z | z | z | z | z | z <;> simp [z])).trans (fr_X7_best e7 c k (by unfold D_rows at hd; rcases hd with z | z | z | z | z | z <;> simp [z]))
  · refine fr_st h.2.1 (fun c k hd => ?_)
    exact (fr_X8_best e8 c k (by unfold D_st at hd; rcases hd with z | z | z | z <;> simp [z])).trans (fr_X7_best e7 c k (by unfold D_st at hd; rcases hd with z | z | z | z <;> simp [z]))
  · refine fr_tape h.2.2.1 (fun c k hd => ?_)
    exact (fr_X8_best e8 c k (by unfold D_tape at hd; rcases hd with z | z | z | z <;> simp [z])).trans (fr_X7_best e7 c k (by unfold D_tape at hd; rcases hd with z | z | z | z <;> simp [z]))
  · refine fr_trace h.2.2.2.1 (fun c k hd => ?_)
    exact (fr_X8_best e8 c k (by unfold D_trace at hd; rcases hd with z | z | z | z <;> simp [z])).trans (fr_X7_best e7 c k (by unfold D_trace at hd; rcases hd with z | z | z | z <;> simp [z]))
  · refine fr_img h.2.2.2.2.1 (fun c k hd => ?_)
    exact (fr_X8_best e8 c k (by unfold D_img at hd; rcases hd with z | z | z | z | z | z | z | z | z | z | z | z | z | z <;> simp [z])).trans (fr_X7_best e7 c k (by unfold D_img at hd; rcases hd with z | z | z | z | z | z | z | z | z | z | z | z | z | z <;> simp [z]))
  · refine fr_fu h.2.2.2.2.2 (fun c k hd => ?_)
    exact (fr_X8_best e8 c k (by unfold D_fu at hd; rcases hd with z | z | z | z | z | z | z | z | z | z | z | z | z | z | z | z <;> simp [z])).trans (fr_X7_best e7 c k (by unfold D_fu at hd; rcases hd with z | z | z | z | z | z | z | z | z | z | z | z | z | z | z | z <;> simp [z]))
theorem pr_least : PR_least JJ := by
  intro H h x1 x2 x3
  obtain ⟨R, f, a⟩ := h.2.2.2.2.2
  obtain ⟨r, H1, H2, e7, e8⟩ := q_least f x1 x2 x3
  refine ⟨r, H1, H2, e7, e8, ?_, ?_, ?_, ?_, ?_, ?_⟩
  · refine fr_rows h.1 (fun c k hd => ?_)
    exact (fr_X8_least e8 c k (by unfold D_rows at hd; rcases hd with z | z | z | z | z | z <;> simp [z])).trans (fr_X7_least e7 c k (by unfold D_rows at hd; rcases hd with z | z | z | z | z | z <;> simp [z]))
  · refine fr_st h.2.1 (fun c k hd => ?_)
    exact (fr_X8_least e8 c k (by unfold D_st at hd; rcases hd with z | z | z | z <;> simp [z])).trans (fr_X7_least e7 c k (by unfold D_st at hd; rcases hd with z | z | z | z <;> simp [z]))
  · refine fr_tape h.2.2.1 (fun c k hd => ?_)
    exact (fr_X8_least e8 c k (by unfold D_tape at hd; rcases hd with z | z | z | z <;> simp [z])).trans (fr_X7_least e7 c k (by unfold D_tape at hd; rcases hd with z | z | z | z <;> simp [z]))
  · refine fr_trace h.2.2.2.1 (fun c k hd => ?_)
    exact (fr_X8_least e8 c k (by unfold D_trace at hd; rcases hd with z | z | z | z <;> simp [z])).trans (fr_X7_least e7 c k (by unfold D_trace at hd; rcases hd with z | z | z | z <;> simp [z]))
  · refine fr_img h.2.2.2.2.1 (fun c k hd => ?_)
    exact (fr_X8_least e8 c k (by unfold D_img at hd; rcases hd with z | z | z | z | z | z | z | z | z | z | z | z | z | z <;> simp [z])).trans (fr_X7_least e7 c k (by unfold D_img at hd; rcases hd with z | z | z | z | z | z | z | z | z | z | z | z | z | z <;> simp [z]))
  · refine fr_fu h.2.2.2.2.2 (fun c k hd => ?_)
    exact (fr_X8_least e8 c k (by unfold D_fu at hd; rcases hd with z | z | z | z | z | z | z | z | z | z | z | z | z | z | z | z <;> simp [z])).trans (fr_X7_least e7 c k (by unfold D_fu at hd; rcases hd with z | z | z | z | z | z | z | z | z | z | z | z | z | z | z | z <;> simp [z]))
theorem pr_missed : PR_missed JJ := by
  intro H h x1 x2
  obtain ⟨R, f, a⟩ := h.2.2.2.2.2
  obtain ⟨r, H1, H2, e7, e8⟩ := q_missed f x1 x2
  refine ⟨r, H1, H2, e7, e8, ?_, ?_, ?_, ?_, ?_, ?_⟩
  · refine fr_rows h.1 (fun c k hd => ?_)
    exact (fr_X8_missed e8 c k (by unfold D_rows at hd; rcases hd with z | z | z | z | z | z <;> simp [z])).trans (fr_X7_missed e7 c k (by unfold D_rows at hd; rcases hd with z | z | z | z | z | z <;> simp [z]))
  · refine fr_st h.2.1 (fun c k hd => ?_)
    exact (fr_X8_missed e8 c k (by unfold D_st at hd; rcases hd with z | z | z | z <;> simp [z])).trans (fr_X7_missed e7 c k (by unfold D_st at hd; rcases hd with z | z | z | z <;> simp [z]))
  · refine fr_tape h.2.2.1 (fun c k hd => ?_)
    exact (fr_X8_missed e8 c k (by unfold D_tape at hd; rcases hd with z | z | z | z <;> simp [z])).trans (fr_X7_missed e7 c k (by unfold D_tape at hd; rcases hd with z | z | z | z <;> simp [z]))
  · refine fr_trace h.2.2.2.1 (fun c k hd => ?_)
    exact (fr_X8_missed e8 c k (by unfold D_trace at hd; rcases hd with z | z | z | z <;> simp [z])).trans (fr_X7_missed e7 c k (by unfold D_trace at hd; rcases hd with z | z | z | z <;> simp [z]))
  · refine fr_img h.2.2.2.2.1 (fun c k hd => ?_)
    exact (fr_X8_missed e8 c k (by unfold D_img at hd; rcases hd with z | z | z | z | z | z | z | z | z | z | z | z | z | z <;> simp [z])).trans (fr_X7_missed e7 c k (by unfold D_img at hd; rcases hd with z | z | z | z | z | z | z | z | z | z | z | z | z | z <;> simp [z]))
  · refine fr_fu h.2.2.2.2.2 (fun c k hd => ?_)
    exact (fr_X8_missed e8 c k (by unfold D_fu at hd; rcases hd with z | z | z | z | z | z | z | z | z | z | z | z | z | z | z | z <;> simp [z])).trans (fr_X7_missed e7 c k (by unfold D_fu at hd; rcases hd with z | z | z | z | z | z | z | z | z | z | z | z | z | z | z | z <;> simp [z]))
theorem pr_ring : PR_ring JJ := by
  intro H h x1
  obtain ⟨R, f, a⟩ := h.2.2.2.2.2
  obtain ⟨r, H1, H2, e7, e8⟩ := q_ring f x1
  refine ⟨r, H1, H2, e7, e8, ?_, ?_, ?_, ?_, ?_, ?_⟩
  · refine fr_rows h.1 (fun c k hd => ?_)
    exact (fr_X8_ring e8 c k (by unfold D_rows at hd; rcases hd with z | z | z | z | z | z <;> simp [z])).trans (fr_X7_ring e7 c k (by unfold D_rows at hd; rcases hd with z | z | z | z | z | z <;> simp [z]))
  · refine fr_st h.2.1 (fun c k hd => ?_)
    exact (fr_X8_ring e8 c k (by unfold D_st at hd; rcases hd with z | z | z | z <;> simp [z])).trans (fr_X7_ring e7 c k (by unfold D_st at hd; rcases hd with z | z | z | z <;> simp [z]))
  · refine fr_tape h.2.2.1 (fun c k hd => ?_)
    exact (fr_X8_ring e8 c k (by unfold D_tape at hd; rcases hd with z | z | z | z <;> simp [z])).trans (fr_X7_ring e7 c k (by unfold D_tape at hd; rcases hd with z | z | z | z <;> simp [z]))
  · refine fr_trace h.2.2.2.1 (fun c k hd => ?_)
    exact (fr_X8_ring e8 c k (by unfold D_trace at hd; rcases hd with z | z | z | z <;> simp [z])).trans (fr_X7_ring e7 c k (by unfold D_trace at hd; rcases hd with z | z | z | z <;> simp [z]))
  · refine fr_img h.2.2.2.2.1 (fun c k hd => ?_)
    exact (fr_X8_ring e8 c k (by unfold D_img at hd; rcases hd with z | z | z | z | z | z | z | z | z | z | z | z | z | z <;> simp [z])).trans (fr_X7_ring e7 c k (by unfold D_img at hd; rcases hd with z | z | z | z | z | z | z | z | z | z | z | z | z | z <;> simp [z]))
  · refine fr_fu h.2.2.2.2.2 (fun c k hd => ?_)
    exact (fr_X8_ring e8 c k (by unfold D_fu at hd; rcases hd with z | z | z | z | z | z | z | z | z | z | z | z | z | z | z | z <;> simp [z])).trans (fr_X7_ring e7 c k (by unfold D_fu at hd; rcases hd with z | z | z | z | z | z | z | z | z | z | z | z | z | z | z | z <;> simp [z]))
theorem pr_halves : PR_halves JJ := by
  intro H h x1 x2 x3 x4 x5
  obtain ⟨R, f, a⟩ := h.2.2.2.2.2
  obtain ⟨r, H1, H2, e7, e8⟩ := q_halves f x1 x2 x3 x4 x5
  refine ⟨r, H1, H2, e7, e8, ?_, ?_, ?_, ?_, ?_, ?_⟩
  · refine fr_rows h.1 (fun c k hd => ?_)
    exact (fr_X8_halves e8 c k (by unfold D_rows at hd; rcases hd with z | z | z | z | z | z <;> simp [z])).trans (fr_X7_halves e7 c k (by unfold D_rows at hd; rcases hd with z | z | z | z | z | z <;> simp [z]))
  · refine fr_st h.2.1 (fun c k hd => ?_)
    exact (fr_X8_halves e8 c k (by unfold D_st at hd; rcases hd with z | z | z | z <;> simp [z])).trans (fr_X7_halves e7 c k (by unfold D_st at hd; rcases hd with z | z | z | z <;> simp [z]))
  · refine fr_tape h.2.2.1 (fun c k hd => ?_)
    exact (fr_X8_halves e8 c k (by unfold D_tape at hd; rcases hd with z | z | z | z <;> simp [z])).trans (fr_X7_halves e7 c k (by unfold D_tape at hd; rcases hd with z | z | z | z <;> simp [z]))
  · refine fr_trace h.2.2.2.1 (fun c k hd => ?_)
    exact (fr_X8_halves e8 c k (by unfold D_trace at hd; rcases hd with z | z | z | z <;> simp [z])).trans (fr_X7_halves e7 c k (by unfold D_trace at hd; rcases hd with z | z | z | z <;> simp [z]))
  · refine fr_img h.2.2.2.2.1 (fun c k hd => ?_)
    exact (fr_X8_halves e8 c k (by unfold D_img at hd; rcases hd with z | z | z | z | z | z | z | z | z | z | z | z | z | z <;> simp [z])).trans (fr_X7_halves e7 c k (by unfold D_img at hd; rcases hd with z | z | z | z | z | z | z | z | z | z | z | z | z | z <;> simp [z]))
  · refine fr_fu h.2.2.2.2.2 (fun c k hd => ?_)
    exact (fr_X8_halves e8 c k (by unfold D_fu at hd; rcases hd with z | z | z | z | z | z | z | z | z | z | z | z | z | z | z | z <;> simp [z])).trans (fr_X7_halves e7 c k (by unfold D_fu at hd; rcases hd with z | z | z | z | z | z | z | z | z | z | z | z | z | z | z | z <;> simp [z]))
theorem pr_sets : PR_sets JJ := by
  intro H h x1 x2
  obtain ⟨R, f, a⟩ := h.2.2.2.2.2
  obtain ⟨r, H1, H2, e7, e8⟩ := q_sets f x1 x2
  refine ⟨r, H1, H2, e7, e8, ?_, ?_, ?_, ?_, ?_, ?_⟩
  · refine fr_rows h.1 (fun c k hd => ?_)
    exact (fr_X8_sets e8 c k (by unfold D_rows at hd; rcases hd with z | z | z | z | z | z <;> simp [z])).trans (fr_X7_sets e7 c k (by unfold D_rows at hd; rcases hd with z | z | z | z | z | z <;> simp [z]))
  · refine fr_st h.2.1 (fun c k hd => ?_)
    exact (fr_X8_sets e8 c k (by unfold D_st at hd; rcases hd with z | z | z | z <;> simp [z])).trans (fr_X7_sets e7 c k (by unfold D_st at hd; rcases hd with z | z | z | z <;> simp [z]))
  · refine fr_tape h.2.2.1 (fun c k hd => ?_)
    exact (fr_X8_sets e8 c k (by unfold D_tape at hd; rcases hd with z | z | z | z <;> simp [z])).trans (fr_X7_sets e7 c k (by unfold D_tape at hd; rcases hd with z | z | z | z <;> simp [z]))
  · refine fr_trace h.2.2.2.1 (fun c k hd => ?_)
    exact (fr_X8_sets e8 c k (by unfold D_trace at hd; rcases hd with z | z | z | z <;> simp [z])).trans (fr_X7_sets e7 c k (by unfold D_trace at hd; rcases hd with z | z | z | z <;> simp [z]))
  · refine fr_img h.2.2.2.2.1 (fun c k hd => ?_)
    exact (fr_X8_sets e8 c k (by unfold D_img at hd; rcases hd with z | z | z | z | z | z | z | z | z | z | z | z | z | z <;> simp [z])).trans (fr_X7_sets e7 c k (by unfold D_img at hd; rcases hd with z | z | z | z | z | z | z | z | z | z | z | z | z | z <;> simp [z]))
  · refine fr_fu h.2.2.2.2.2 (fun c k hd => ?_)
    exact (fr_X8_sets e8 c k (by unfold D_fu at hd; rcases hd with z | z | z | z | z | z | z | z | z | z | z | z | z | z | z | z <;> simp [z])).trans (fr_X7_sets e7 c k (by unfold D_fu at hd; rcases hd with z | z | z | z | z | z | z | z | z | z | z | z | z | z | z | z <;> simp [z]))
theorem pr_byTurns : PR_byTurns JJ := by
  intro H h x1 x2 x3 x4
  obtain ⟨R, f, a⟩ := h.2.2.2.2.2
  obtain ⟨r, H1, H2, e7, e8⟩ := q_byTurns f x1 x2 x3 x4
  refine ⟨r, H1, H2, e7, e8, ?_, ?_, ?_, ?_, ?_, ?_⟩
  · refine fr_rows h.1 (fun c k hd => ?_)
    exact (fr_X8_byTurns e8 c k (by unfold D_rows at hd; rcases hd with z | z | z | z | z | z <;> simp [z])).trans (fr_X7_byTurns e7 c k (by unfold D_rows at hd; rcases hd with z | z | z | z | z | z <;> simp [z]))
  · refine fr_st h.2.1 (fun c k hd => ?_)
    exact (fr_X8_byTurns e8 c k (by unfold D_st at hd; rcases hd with z | z | z | z <;> simp [z])).trans (fr_X7_byTurns e7 c k (by unfold D_st at hd; rcases hd with z | z | z | z <;> simp [z]))
  · refine fr_tape h.2.2.1 (fun c k hd => ?_)
    exact (fr_X8_byTurns e8 c k (by unfold D_tape at hd; rcases hd with z | z | z | z <;> simp [z])).trans (fr_X7_byTurns e7 c k (by unfold D_tape at hd; rcases hd with z | z | z | z <;> simp [z]))
  · refine fr_trace h.2.2.2.1 (fun c k hd => ?_)
    exact (fr_X8_byTurns e8 c k (by unfold D_trace at hd; rcases hd with z | z | z | z <;> simp [z])).trans (fr_X7_byTurns e7 c k (by unfold D_trace at hd; rcases hd with z | z | z | z <;> simp [z]))
  · refine fr_img h.2.2.2.2.1 (fun c k hd => ?_)
    exact (fr_X8_byTurns e8 c k (by unfold D_img at hd; rcases hd with z | z | z | z | z | z | z | z | z | z | z | z | z | z <;> simp [z])).trans (fr_X7_byTurns e7 c k (by unfold D_img at hd; rcases hd with z | z | z | z | z | z | z | z | z | z | z | z | z | z <;> simp [z]))
  · refine fr_fu h.2.2.2.2.2 (fun c k hd => ?_)
    exact (fr_X8_byTurns e8 c k (by unfold D_fu at hd; rcases hd with z | z | z | z | z | z | z | z | z | z | z | z | z | z | z | z <;> simp [z])).trans (fr_X7_byTurns e7 c k (by unfold D_fu at hd; rcases hd with z | z | z | z | z | z | z | z | z | z | z | z | z | z | z | z <;> simp [z]))
theorem pr_who : PR_who JJ := by
  intro H h x1 x2 x3 x4
  obtain ⟨R, f, a⟩ := h.2.2.2.2.2
  obtain ⟨r, H1, H2, e7, e8, t_st⟩ := q_who f h.1 h.2.1 x1 x2 x3 x4
  refine ⟨r, H1, H2, e7, e8, ?_, t_st, ?_, ?_, ?_, ?_⟩
  · refine fr_rows h.1 (fun c k hd => ?_)
    exact (fr_X8_who e8 c k (by unfold D_rows at hd; rcases hd with z | z | z | z | z | z <;> simp [z])).trans (fr_X7_who e7 c k (by unfold D_rows at hd; rcases hd with z | z | z | z | z | z <;> simp [z]))
  · refine fr_tape h.2.2.1 (fun c k hd => ?_)
    exact (fr_X8_who e8 c k (by unfold D_tape at hd; rcases hd with z | z | z | z <;> simp [z])).trans (fr_X7_who e7 c k (by unfold D_tape at hd; rcases hd with z | z | z | z <;> simp [z]))
  · refine fr_trace h.2.2.2.1 (fun c k hd => ?_)
    exact (fr_X8_who e8 c k (by unfold D_trace at hd; rcases hd with z | z | z | z <;> simp [z])).trans (fr_X7_who e7 c k (by unfold D_trace at hd; rcases hd with z | z | z | z <;> simp [z]))
  · refine fr_img h.2.2.2.2.1 (fun c k hd => ?_)
    exact (fr_X8_who e8 c k (by unfold D_img at hd; rcases hd with z | z | z | z | z | z | z | z | z | z | z | z | z | z <;> simp [z])).trans (fr_X7_who e7 c k (by unfold D_img at hd; rcases hd with z | z | z | z | z | z | z | z | z | z | z | z | z | z <;> simp [z]))
  · refine fr_fu h.2.2.2.2.2 (fun c k hd => ?_)
    exact (fr_X8_who e8 c k (by unfold D_fu at hd; rcases hd with z | z | z | z | z | z | z | z | z | z | z | z | z | z | z | z <;> simp [z])).trans (fr_X7_who e7 c k (by unfold D_fu at hd; rcases hd with z | z | z | z | z | z | z | z | z | z | z | z | z | z | z | z <;> simp [z]))
theorem pr_likely : PR_likely JJ := by
  intro H h x1 x2 x3 x4
  obtain ⟨R, f, a⟩ := h.2.2.2.2.2
  obtain ⟨r, H1, H2, e7, e8⟩ := q_likely f x1 x2 x3 x4
  refine ⟨r, H1, H2, e7, e8, ?_, ?_, ?_, ?_, ?_, ?_⟩
  · refine fr_rows h.1 (fun c k hd => ?_)
    exact (fr_X8_likely e8 c k (by unfold D_rows at hd; rcases hd with z | z | z | z | z | z <;> simp [z])).trans (fr_X7_likely e7 c k (by unfold D_rows at hd; rcases hd with z | z | z | z | z | z <;> simp [z]))
  · refine fr_st h.2.1 (fun c k hd => ?_)
    exact (fr_X8_likely e8 c k (by unfold D_st at hd; rcases hd with z | z | z | z <;> simp [z])).trans (fr_X7_likely e7 c k (by unfold D_st at hd; rcases hd with z | z | z | z <;> simp [z]))
  · refine fr_tape h.2.2.1 (fun c k hd => ?_)
    exact (fr_X8_likely e8 c k (by unfold D_tape at hd; rcases hd with z | z | z | z <;> simp [z])).trans (fr_X7_likely e7 c k (by unfold D_tape at hd; rcases hd with z | z | z | z <;> simp [z]))
  · refine fr_trace h.2.2.2.1 (fun c k hd => ?_)
    exact (fr_X8_likely e8 c k (by unfold D_trace at hd; rcases hd with z | z | z | z <;> simp [z])).trans (fr_X7_likely e7 c k (by unfold D_trace at hd; rcases hd with z | z | z | z <;> simp [z]))
  · refine fr_img h.2.2.2.2.1 (fun c k hd => ?_)
    exact (fr_X8_likely e8 c k (by unfold D_img at hd; rcases hd with z | z | z | z | z | z | z | z | z | z | z | z | z | z <;> simp [z])).trans (fr_X7_likely e7 c k (by unfold D_img at hd; rcases hd with z | z | z | z | z | z | z | z | z | z | z | z | z | z <;> simp [z]))
  · refine fr_fu h.2.2.2.2.2 (fun c k hd => ?_)
    exact (fr_X8_likely e8 c k (by unfold D_fu at hd; rcases hd with z | z | z | z | z | z | z | z | z | z | z | z | z | z | z | z <;> simp [z])).trans (fr_X7_likely e7 c k (by unfold D_fu at hd; rcases hd with z | z | z | z | z | z | z | z | z | z | z | z | z | z | z | z <;> simp [z]))
theorem pr_drawn : PR_drawn JJ := by
  intro H h x1 x2 x3
  obtain ⟨R, f, a⟩ := h.2.2.2.2.2
  obtain ⟨r, H1, H2, e7, e8⟩ := q_drawn f x1 x2 x3
  refine ⟨r, H1, H2, e7, e8, ?_, ?_, ?_, ?_, ?_, ?_⟩
  · refine fr_rows h.1 (fun c k hd => ?_)
    exact (fr_X8_drawn e8 c k (by unfold D_rows at hd; rcases hd with z | z | z | z | z | z <;> simp [z])).trans (fr_X7_drawn e7 c k (by unfold D_rows at hd; rcases hd with z | z | z | z | z | z <;> simp [z]))
  · refine fr_st h.2.1 (fun c k hd => ?_)
    exact (fr_X8_drawn e8 c k (by unfold D_st at hd; rcases hd with z | z | z | z <;> simp [z])).trans (fr_X7_drawn e7 c k (by unfold D_st at hd; rcases hd with z | z | z | z <;> simp [z]))
  · refine fr_tape h.2.2.1 (fun c k hd => ?_)
    exact (fr_X8_drawn e8 c k (by unfold D_tape at hd; rcases hd with z | z | z | z <;> simp [z])).trans (fr_X7_drawn e7 c k (by unfold D_tape at hd; rcases hd with z | z | z | z <;> simp [z]))
  · refine fr_trace h.2.2.2.1 (fun c k hd => ?_)
    exact (fr_X8_drawn e8 c k (by unfold D_trace at hd; rcases hd with z | z | z | z <;> simp [z])).trans (fr_X7_drawn e7 c k (by unfold D_trace at hd; rcases hd with z | z | z | z <;> simp [z]))
  · refine fr_img h.2.2.2.2.1 (fun c k hd => ?_)
    exact (fr_X8_drawn e8 c k (by unfold D_img at hd; rcases hd with z | z | z | z | z | z | z | z | z | z | z | z | z | z <;> simp [z])).trans (fr_X7_drawn e7 c k (by unfold D_img at hd; rcases hd with z | z | z | z | z | z | z | z | z | z | z | z | z | z <;> simp [z]))
  · refine fr_fu h.2.2.2.2.2 (fun c k hd => ?_)
    exact (fr_X8_drawn e8 c k (by unfold D_fu at hd; rcases hd with z | z | z | z | z | z | z | z | z | z | z | z | z | z | z | z <;> simp [z])).trans (fr_X7_drawn e7 c k (by unfold D_fu at hd; rcases hd with z | z | z | z | z | z | z | z | z | z | z | z | z | z | z | z <;> simp [z]))
theorem pr_image : PR_image JJ := by
  intro H h x1
  obtain ⟨R, f, a⟩ := h.2.2.2.2.2
  obtain ⟨r, H1, H2, e7, e8, t_img⟩ := q_image f h.2.2.2.2.1 x1
  refine ⟨r, H1, H2, e7, e8, ?_, ?_, ?_, ?_, t_img, ?_⟩
  · refine fr_rows h.1 (fun c k hd => ?_)
    exact (fr_X8_image e8 c k (by unfold D_rows at hd; rcases hd with z | z | z | z | z | z <;> simp [z])).trans (fr_X7_image e7 c k (by unfold D_rows at hd; rcases hd with z | z | z | z | z | z <;> simp [z]))
  · refine fr_st h.2.1 (fun c k hd => ?_)
    exact (fr_X8_image e8 c k (by unfold D_st at hd; rcases hd with z | z | z | z <;> simp [z])).trans (fr_X7_image e7 c k (by unfold D_st at hd; rcases hd with z | z | z | z <;> simp [z]))
  · refine fr_tape h.2.2.1 (fun c k hd => ?_)
    exact (fr_X8_image e8 c k (by unfold D_tape at hd; rcases hd with z | z | z | z <;> simp [z])).trans (fr_X7_image e7 c k (by unfold D_tape at hd; rcases hd with z | z | z | z <;> simp [z]))
  · refine fr_trace h.2.2.2.1 (fun c k hd => ?_)
    exact (fr_X8_image e8 c k (by unfold D_trace at hd; rcases hd with z | z | z | z <;> simp [z])).trans (fr_X7_image e7 c k (by unfold D_trace at hd; rcases hd with z | z | z | z <;> simp [z]))
  · refine fr_fu h.2.2.2.2.2 (fun c k hd => ?_)
    exact (fr_X8_image e8 c k (by unfold D_fu at hd; rcases hd with z | z | z | z | z | z | z | z | z | z | z | z | z | z | z | z <;> simp [z])).trans (fr_X7_image e7 c k (by unfold D_fu at hd; rcases hd with z | z | z | z | z | z | z | z | z | z | z | z | z | z | z | z <;> simp [z]))
theorem pr_restore : PR_restore JJ := by
  intro H h x1
  obtain ⟨R, f, a⟩ := h.2.2.2.2.2
  obtain ⟨r, H1, H2, e7, e8, t_fu⟩ := q_restore f a h.2.2.2.2.1 x1
  refine ⟨r, H1, H2, e7, e8, ?_, ?_, ?_, ?_, ?_, t_fu⟩
  · refine fr_rows h.1 (fun c k hd => ?_)
    exact (fr_X8_restore e8 c k (by unfold D_rows at hd; rcases hd with z | z | z | z | z | z <;> simp [z])).trans (fr_X7_restore e7 c k (by unfold D_rows at hd; rcases hd with z | z | z | z | z | z <;> simp [z]))
  · refine fr_st h.2.1 (fun c k hd => ?_)
    exact (fr_X8_restore e8 c k (by unfold D_st at hd; rcases hd with z | z | z | z <;> simp [z])).trans (fr_X7_restore e7 c k (by unfold D_st at hd; rcases hd with z | z | z | z <;> simp [z]))
  · refine fr_tape h.2.2.1 (fun c k hd => ?_)
    exact (fr_X8_restore e8 c k (by unfold D_tape at hd; rcases hd with z | z | z | z <;> simp [z])).trans (fr_X7_restore e7 c k (by unfold D_tape at hd; rcases hd with z | z | z | z <;> simp [z]))
  · refine fr_trace h.2.2.2.1 (fun c k hd => ?_)
    exact (fr_X8_restore e8 c k (by unfold D_trace at hd; rcases hd with z | z | z | z <;> simp [z])).trans (fr_X7_restore e7 c k (by unfold D_trace at hd; rcases hd with z | z | z | z <;> simp [z]))
  · refine fr_img h.2.2.2.2.1 (fun c k hd => ?_)
    exact (fr_X8_restore e8 c k (by unfold D_img at hd; rcases hd with z | z | z | z | z | z | z | z | z | z | z | z | z | z <;> simp [z])).trans (fr_X7_restore e7 c k (by unfold D_img at hd; rcases hd with z | z | z | z | z | z | z | z | z | z | z | z | z | z <;> simp [z]))
theorem pr_kind : PR_kind JJ := by
  intro H h x1
  obtain ⟨R, f, a⟩ := h.2.2.2.2.2
  obtain ⟨r, H2, e7, e8⟩ := q_kind f x1
  refine ⟨r, H2, e7, e8, ?_, ?_, ?_, ?_, ?_, ?_⟩
  · refine fr_rows h.1 (fun c k hd => ?_)
    exact (fr_X8_kind e8 c k (by unfold D_rows at hd; rcases hd with z | z | z | z | z | z <;> simp [z]))
  · refine fr_st h.2.1 (fun c k hd => ?_)
    exact (fr_X8_kind e8 c k (by unfold D_st at hd; rcases hd with z | z | z | z <;> simp [z]))
  · refine fr_tape h.2.2.1 (fun c k hd => ?_)
    exact (fr_X8_kind e8 c k (by unfold D_tape at hd; rcases hd with z | z | z | z <;> simp [z]))
  · refine fr_trace h.2.2.2.1 (fun c k hd => ?_)
    exact (fr_X8_kind e8 c k (by unfold D_trace at hd; rcases hd with z | z | z | z <;> simp [z]))
  · refine fr_img h.2.2.2.2.1 (fun c k hd => ?_)
    exact (fr_X8_kind e8 c k (by unfold D_img at hd; rcases hd with z | z | z | z | z | z | z | z | z | z | z | z | z | z <;> simp [z]))
  · refine fr_fu h.2.2.2.2.2 (fun c k hd => ?_)
    exact (fr_X8_kind e8 c k (by unfold D_fu at hd; rcases hd with z | z | z | z | z | z | z | z | z | z | z | z | z | z | z | z <;> simp [z]))
theorem pr_as : PR_as JJ := by
  intro H h x1 x2
  obtain ⟨R, f, a⟩ := h.2.2.2.2.2
  obtain ⟨r, H1, H2, e7, e8, t_st⟩ := q_as f h.2.1 x1 x2
  refine ⟨r, H1, H2, e7, e8, ?_, t_st, ?_, ?_, ?_, ?_⟩
  · refine fr_rows h.1 (fun c k hd => ?_)
    exact (fr_X8_as e8 c k (by unfold D_rows at hd; rcases hd with z | z | z | z | z | z <;> simp [z])).trans (fr_X7_as e7 c k (by unfold D_rows at hd; rcases hd with z | z | z | z | z | z <;> simp [z]))
  · refine fr_tape h.2.2.1 (fun c k hd => ?_)
    exact (fr_X8_as e8 c k (by unfold D_tape at hd; rcases hd with z | z | z | z <;> simp [z])).trans (fr_X7_as e7 c k (by unfold D_tape at hd; rcases hd with z | z | z | z <;> simp [z]))
  · refine fr_trace h.2.2.2.1 (fun c k hd => ?_)
    exact (fr_X8_as e8 c k (by unfold D_trace at hd; rcases hd with z | z | z | z <;> simp [z])).trans (fr_X7_as e7 c k (by unfold D_trace at hd; rcases hd with z | z | z | z <;> simp [z]))
  · refine fr_img h.2.2.2.2.1 (fun c k hd => ?_)
    exact (fr_X8_as e8 c k (by unfold D_img at hd; rcases hd with z | z | z | z | z | z | z | z | z | z | z | z | z | z <;> simp [z])).trans (fr_X7_as e7 c k (by unfold D_img at hd; rcases hd with z | z | z | z | z | z | z | z | z | z | z | z | z | z <;> simp [z]))
  · refine fr_fu h.2.2.2.2.2 (fun c k hd => ?_)
    exact (fr_X8_as e8 c k (by unfold D_fu at hd; rcases hd with z | z | z | z | z | z | z | z | z | z | z | z | z | z | z | z <;> simp [z])).trans (fr_X7_as e7 c k (by unfold D_fu at hd; rcases hd with z | z | z | z | z | z | z | z | z | z | z | z | z | z | z | z <;> simp [z]))
theorem pr_ask : PR_ask JJ := by
  intro H h x1 x2
  obtain ⟨R, f, a⟩ := h.2.2.2.2.2
  obtain ⟨r, H1, H2, e7, e8, t_trace⟩ := q_ask f h.2.2.2.1 x1 x2
  refine ⟨r, H1, H2, e7, e8, ?_, ?_, ?_, t_trace, ?_, ?_⟩
  · refine fr_rows h.1 (fun c k hd => ?_)
    exact (fr_X8_ask e8 c k (by unfold D_rows at hd; rcases hd with z | z | z | z | z | z <;> simp [z])).trans (fr_X7_ask e7 c k (by unfold D_rows at hd; rcases hd with z | z | z | z | z | z <;> simp [z]))
  · refine fr_st h.2.1 (fun c k hd => ?_)
    exact (fr_X8_ask e8 c k (by unfold D_st at hd; rcases hd with z | z | z | z <;> simp [z])).trans (fr_X7_ask e7 c k (by unfold D_st at hd; rcases hd with z | z | z | z <;> simp [z]))
  · refine fr_tape h.2.2.1 (fun c k hd => ?_)
    exact (fr_X8_ask e8 c k (by unfold D_tape at hd; rcases hd with z | z | z | z <;> simp [z])).trans (fr_X7_ask e7 c k (by unfold D_tape at hd; rcases hd with z | z | z | z <;> simp [z]))
  · refine fr_img h.2.2.2.2.1 (fun c k hd => ?_)
    exact (fr_X8_ask e8 c k (by unfold D_img at hd; rcases hd with z | z | z | z | z | z | z | z | z | z | z | z | z | z <;> simp [z])).trans (fr_X7_ask e7 c k (by unfold D_img at hd; rcases hd with z | z | z | z | z | z | z | z | z | z | z | z | z | z <;> simp [z]))
  · refine fr_fu h.2.2.2.2.2 (fun c k hd => ?_)
    exact (fr_X8_ask e8 c k (by unfold D_fu at hd; rcases hd with z | z | z | z | z | z | z | z | z | z | z | z | z | z | z | z <;> simp [z])).trans (fr_X7_ask e7 c k (by unfold D_fu at hd; rcases hd with z | z | z | z | z | z | z | z | z | z | z | z | z | z | z | z <;> simp [z]))
theorem pr_trace : PR_trace JJ := by
  intro H h x1
  obtain ⟨R, f, a⟩ := h.2.2.2.2.2
  obtain ⟨r, H2, e7, e8⟩ := q_trace h.2.2.2.1 x1
  refine ⟨r, H2, e7, e8, ?_, ?_, ?_, ?_, ?_, ?_⟩
  · refine fr_rows h.1 (fun c k hd => ?_)
    exact (fr_X8_trace e8 c k (by unfold D_rows at hd; rcases hd with z | z | z | z | z | z <;> simp [z]))
  · refine fr_st h.2.1 (fun c k hd => ?_)
    exact (fr_X8_trace e8 c k (by unfold D_st at hd; rcases hd with z | z | z | z <;> simp [z]))
  · refine fr_tape h.2.2.1 (fun c k hd => ?_)
    exact (fr_X8_trace e8 c k (by unfold D_tape at hd; rcases hd with z | z | z | z <;> simp [z]))
  · refine fr_trace h.2.2.2.1 (fun c k hd => ?_)
    exact (fr_X8_trace e8 c k (by unfold D_trace at hd; rcases hd with z | z | z | z <;> simp [z]))
  · refine fr_img h.2.2.2.2.1 (fun c k hd => ?_)
    exact (fr_X8_trace e8 c k (by unfold D_img at hd; rcases hd with z | z | z | z | z | z | z | z | z | z | z | z | z | z <;> simp [z]))
  · refine fr_fu h.2.2.2.2.2 (fun c k hd => ?_)
    exact (fr_X8_trace e8 c k (by unfold D_fu at hd; rcases hd with z | z | z | z | z | z | z | z | z | z | z | z | z | z | z | z <;> simp [z]))
theorem pr_count : PR_count JJ := by
  intro H h x1
  obtain ⟨R, f, a⟩ := h.2.2.2.2.2
  obtain ⟨r, H2, e7, e8⟩ := q_count f h.1 h.2.2.1 a x1
  refine ⟨r, H2, e7, e8, ?_, ?_, ?_, ?_, ?_, ?_⟩
  · refine fr_rows h.1 (fun c k hd => ?_)
    exact (fr_X8_count e8 c k (by unfold D_rows at hd; rcases hd with z | z | z | z | z | z <;> simp [z]))
  · refine fr_st h.2.1 (fun c k hd => ?_)
    exact (fr_X8_count e8 c k (by unfold D_st at hd; rcases hd with z | z | z | z <;> simp [z]))
  · refine fr_tape h.2.2.1 (fun c k hd => ?_)
    exact (fr_X8_count e8 c k (by unfold D_tape at hd; rcases hd with z | z | z | z <;> simp [z]))
  · refine fr_trace h.2.2.2.1 (fun c k hd => ?_)
    exact (fr_X8_count e8 c k (by unfold D_trace at hd; rcases hd with z | z | z | z <;> simp [z]))
  · refine fr_img h.2.2.2.2.1 (fun c k hd => ?_)
    exact (fr_X8_count e8 c k (by unfold D_img at hd; rcases hd with z | z | z | z | z | z | z | z | z | z | z | z | z | z <;> simp [z]))
  · refine fr_fu h.2.2.2.2.2 (fun c k hd => ?_)
    exact (fr_X8_count e8 c k (by unfold D_fu at hd; rcases hd with z | z | z | z | z | z | z | z | z | z | z | z | z | z | z | z <;> simp [z]))
theorem pr_status : PR_status JJ := by
  intro H h
  obtain ⟨R, f, a⟩ := h.2.2.2.2.2
  obtain ⟨r, H2, e7, e8⟩ := q_status h.2.1 
  refine ⟨r, H2, e7, e8, ?_, ?_, ?_, ?_, ?_, ?_⟩
  · refine fr_rows h.1 (fun c k hd => ?_)
    exact (fr_X8_status e8 c k (by unfold D_rows at hd; rcases hd with z | z | z | z | z | z <;> simp [z]))
  · refine fr_st h.2.1 (fun c k hd => ?_)
    exact (fr_X8_status e8 c k (by unfold D_st at hd; rcases hd with z | z | z | z <;> simp [z]))
  · refine fr_tape h.2.2.1 (fun c k hd => ?_)
    exact (fr_X8_status e8 c k (by unfold D_tape at hd; rcases hd with z | z | z | z <;> simp [z]))
  · refine fr_trace h.2.2.2.1 (fun c k hd => ?_)
    exact (fr_X8_status e8 c k (by unfold D_trace at hd; rcases hd with z | z | z | z <;> simp [z]))
  · refine fr_img h.2.2.2.2.1 (fun c k hd => ?_)
    exact (fr_X8_status e8 c k (by unfold D_img at hd; rcases hd with z | z | z | z | z | z | z | z | z | z | z | z | z | z <;> simp [z]))
  · refine fr_fu h.2.2.2.2.2 (fun c k hd => ?_)
    exact (fr_X8_status e8 c k (by unfold D_fu at hd; rcases hd with z | z | z | z | z | z | z | z | z | z | z | z | z | z | z | z <;> simp [z]))
