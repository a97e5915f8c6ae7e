/-! The law's cell -/
section LC
variable {X : gX} {ws : va_W}
theorem l_cell {j : Nat} (hj : j < 2 ^ 31) (hsl : X.sl < 2 ^ 31) : G X m_L_cell 0 0 0 0 0 (lv_args 0 [.ref X.sb, .int (nI j)]) [] ws (pI (fun v w => v = (if j < X.sl then X.sx j else 0) ∧ w = ws)) := by
  refine g_iload_n d_L_cell_0 rfl ?_
  refine g_aload_n d_L_cell_1 rfl ?_
  refine g_slen d_L_cell_2 ?_
  refine g_icmp_ge 12 d_L_cell_3 (by decide) (fun h => ?_) (fun h => ?_)
  · have h' : ¬ j < X.sl := fun z => lt_nle (nI_lt z hsl) h
    refine g_iconst 0 d_L_cell_12 (by decide) ?_
    exact g_iret d_L_cell_13 rfl ⟨_, rfl, by rw [if_neg h'], rfl⟩
  · have h' : j < X.sl := (nI_ltI hj hsl).mp (nle_lt h)
    refine g_aload_n d_L_cell_6 rfl ?_
    refine g_iload_n d_L_cell_7 rfl ?_
    refine g_sald d_L_cell_8 rfl h' hsl ?_
    refine g_goto 13 d_L_cell_9 (by decide) ?_
    exact g_iret d_L_cell_13 rfl ⟨_, rfl, by rw [if_pos h'], rfl⟩
end LC
