theorem am_glOk_1 : am_glOk am_T := by
  refine ⟨fun t ht => ?_, am_tk_mem (d := 850) (by decide +kernel), am_tk_mem (d := 849) (by decide +kernel), am_tk_mem (d := 128) (by decide +kernel), am_tk_mem (d := 126) (by decide +kernel), ⟨am_tk_mem (d := 641) (by decide +kernel), am_tk_mem (d := 642) (by decide +kernel)⟩, ⟨am_tk_mem (d := 644) (by decide +kernel), am_tk_mem (d := 645) (by decide +kernel)⟩, ⟨am_tk_mem (d := 1138) (by decide +kernel), am_tk_mem (d := 1139) (by decide +kernel)⟩, am_tk_mem (d := 136) (by decide +kernel), am_tk_mem (d := 137) (by decide +kernel)⟩
  match t, ht with
  | 0, _ => exact am_tk_mem (d := 215) (by decide +kernel)
  | 1, _ => exact am_tk_mem (d := 213) (by decide +kernel)
  | 2, _ => exact am_tk_mem (d := 1581) (by decide +kernel)
  | 3, _ => exact am_tk_mem (d := 214) (by decide +kernel)
theorem am_ckOk_1 : am_ckOk am_Tg := ⟨am_tk_good (d := 166) (by decide +kernel) (by decide), am_tk_good (d := 165) (by decide +kernel) (by decide), am_tk_good (d := 110) (by decide +kernel) (by decide), am_tk_good (d := 170) (by decide +kernel) (by decide), am_tk_good (d := 169) (by decide +kernel) (by decide), am_tk_good (d := 112) (by decide +kernel) (by decide), am_tk_good (d := 167) (by decide +kernel) (by decide), am_tk_good (d := 168) (by decide +kernel) (by decide)⟩
set_option maxRecDepth 100000 in
theorem am_Tg_good : am_Tg.all goodWord = true := by decide +kernel
set_option maxRecDepth 100000 in
theorem am_NT_nest : am_NT.all am_nest = true := by decide +kernel
theorem am_T_split : am_T = am_Tg ++ am_NT := by
  unfold am_T am_Tg am_NT
  rw [← List.flatten_append, List.take_append_drop]
theorem am_prog_ok : am_Prog am_ftab am_T am_Tg am_NT am_tk am_cls am_rcls am_strs am_y am_bc am_mL am_np am_fr am_lo am_rt am_code :=
  ⟨am_clOk_1, am_glOk_1, am_ckOk_1, am_hchk, am_hm, List.all_eq_true.mp am_Tg_good, fun w hw => by rw [am_T_split]; exact List.mem_append_left _ hw, fun w hw => by rw [am_T_split] at hw; exact List.mem_append.mp hw, List.all_eq_true.mp am_NT_nest, fun d w h => am_tk_mem h⟩
