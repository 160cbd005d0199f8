theorem zall_step {α : Type} {p : α → Bool} {l : List α} {k c : Nat} (h1 : ((l.drop k).take c).all p = true) (h2 : (l.drop (k + c)).all p = true) : (l.drop k).all p = true := by
  rw [← List.take_append_drop c (l.drop k), List.all_append, h1, List.drop_drop, h2]
  rfl
set_option maxRecDepth 100000 in
theorem e_L_0 : (((zi mL_law).drop 0).take 25).all (zent mL_law) = true := by decide +kernel
set_option maxRecDepth 100000 in
theorem e_L_25 : (((zi mL_law).drop 25).take 25).all (zent mL_law) = true := by decide +kernel
set_option maxRecDepth 100000 in
theorem e_L_50 : (((zi mL_law).drop 50).take 25).all (zent mL_law) = true := by decide +kernel
set_option maxRecDepth 100000 in
theorem e_L_75 : (((zi mL_law).drop 75).take 25).all (zent mL_law) = true := by decide +kernel
set_option maxRecDepth 100000 in
theorem e_L_100 : (((zi mL_law).drop 100).take 25).all (zent mL_law) = true := by decide +kernel
set_option maxRecDepth 100000 in
theorem e_L_125 : (((zi mL_law).drop 125).take 25).all (zent mL_law) = true := by decide +kernel
set_option maxRecDepth 100000 in
theorem e_L_150 : (((zi mL_law).drop 150).take 25).all (zent mL_law) = true := by decide +kernel
set_option maxRecDepth 100000 in
theorem e_L_175 : (((zi mL_law).drop 175).take 25).all (zent mL_law) = true := by decide +kernel
set_option maxRecDepth 100000 in
theorem e_L_200 : (((zi mL_law).drop 200).take 25).all (zent mL_law) = true := by decide +kernel
set_option maxRecDepth 100000 in
theorem e_L_225 : (((zi mL_law).drop 225).take 25).all (zent mL_law) = true := by decide +kernel
set_option maxRecDepth 100000 in
theorem e_L_250 : (((zi mL_law).drop 250).take 25).all (zent mL_law) = true := by decide +kernel
set_option maxRecDepth 100000 in
theorem e_L_275 : (((zi mL_law).drop 275).take 25).all (zent mL_law) = true := by decide +kernel
set_option maxRecDepth 100000 in
theorem e_L_300 : (((zi mL_law).drop 300).take 25).all (zent mL_law) = true := by decide +kernel
set_option maxRecDepth 100000 in
theorem e_L_325 : (((zi mL_law).drop 325).take 25).all (zent mL_law) = true := by decide +kernel
set_option maxRecDepth 100000 in
theorem e_L_350 : (((zi mL_law).drop 350).take 25).all (zent mL_law) = true := by decide +kernel
set_option maxRecDepth 100000 in
theorem e_L_375 : (((zi mL_law).drop 375).take 25).all (zent mL_law) = true := by decide +kernel
set_option maxRecDepth 100000 in
theorem e_L_400 : (((zi mL_law).drop 400).take 25).all (zent mL_law) = true := by decide +kernel
set_option maxRecDepth 100000 in
theorem e_L_425 : (((zi mL_law).drop 425).take 25).all (zent mL_law) = true := by decide +kernel
set_option maxRecDepth 100000 in
theorem e_L_450 : (((zi mL_law).drop 450).take 25).all (zent mL_law) = true := by decide +kernel
set_option maxRecDepth 100000 in
theorem e_L_475 : (((zi mL_law).drop 475).take 25).all (zent mL_law) = true := by decide +kernel
set_option maxRecDepth 100000 in
theorem e_L_500 : (((zi mL_law).drop 500).take 25).all (zent mL_law) = true := by decide +kernel
set_option maxRecDepth 100000 in
theorem e_L_525 : (((zi mL_law).drop 525).take 25).all (zent mL_law) = true := by decide +kernel
set_option maxRecDepth 100000 in
theorem e_L_550 : (((zi mL_law).drop 550).take 25).all (zent mL_law) = true := by decide +kernel
set_option maxRecDepth 100000 in
theorem e_L_575 : (((zi mL_law).drop 575).take 25).all (zent mL_law) = true := by decide +kernel
set_option maxRecDepth 100000 in
theorem e_L_law : (zi mL_law).all (zent mL_law) = true := by
  exact zall_step (k := 0) e_L_0 (zall_step e_L_25 (zall_step e_L_50 (zall_step e_L_75 (zall_step e_L_100 (zall_step e_L_125 (zall_step e_L_150 (zall_step e_L_175 (zall_step e_L_200 (zall_step e_L_225 (zall_step e_L_250 (zall_step e_L_275 (zall_step e_L_300 (zall_step e_L_325 (zall_step e_L_350 (zall_step e_L_375 (zall_step e_L_400 (zall_step e_L_425 (zall_step e_L_450 (zall_step e_L_475 (zall_step e_L_500 (zall_step e_L_525 (zall_step e_L_550 (zall_step e_L_575 (rfl))))))))))))))))))))))))
theorem zMlen : zM.length = 66 := by decide +kernel
def zPok (y : zMd) : Prop := (zi y).all (zent y) = true ∧ (zk y ≠ 5 → zmtd y = true ∧ lw_tbl[(zw y).getD 0 0]? = some (zcw y))
set_option maxRecDepth 100000 in
theorem zM_ok : ∀ y ∈ zM, zPok y := by
  unfold zM
  exact List.forall_mem_cons.mpr ⟨⟨e_X0_init, fun _ => ⟨k_X0_init, w_X0_init⟩⟩, List.forall_mem_cons.mpr ⟨⟨e_X0_toRounds, fun _ => ⟨k_X0_toRounds, w_X0_toRounds⟩⟩, List.forall_mem_cons.mpr ⟨⟨e_X0_read, fun _ => ⟨k_X0_read, w_X0_read⟩⟩, List.forall_mem_cons.mpr ⟨⟨e_X0_change, fun _ => ⟨k_X0_change, w_X0_change⟩⟩, List.forall_mem_cons.mpr ⟨⟨e_X0_changeBack, fun _ => ⟨k_X0_changeBack, w_X0_changeBack⟩⟩, List.forall_mem_cons.mpr ⟨⟨e_X0_placeOf, fun _ => ⟨k_X0_placeOf, w_X0_placeOf⟩⟩, List.forall_mem_cons.mpr ⟨⟨e_X0_code, fun _ => ⟨k_X0_code, w_X0_code⟩⟩, List.forall_mem_cons.mpr ⟨⟨e_X0_rank, fun _ => ⟨k_X0_rank, w_X0_rank⟩⟩, List.forall_mem_cons.mpr ⟨⟨e_X1_init, fun _ => ⟨k_X1_init, w_X1_init⟩⟩, List.forall_mem_cons.mpr ⟨⟨e_X1_clear, fun _ => ⟨k_X1_clear, w_X1_clear⟩⟩, List.forall_mem_cons.mpr ⟨⟨e_X1_mark, fun _ => ⟨k_X1_mark, w_X1_mark⟩⟩, List.forall_mem_cons.mpr ⟨⟨e_X2_init, fun _ => ⟨k_X2_init, w_X2_init⟩⟩, List.forall_mem_cons.mpr ⟨⟨e_X2_explore, fun _ => ⟨k_X2_explore, w_X2_explore⟩⟩, List.forall_mem_cons.mpr ⟨⟨e_X2_begin, fun _ => ⟨k_X2_begin, w_X2_begin⟩⟩, List.forall_mem_cons.mpr ⟨⟨e_X2_arrive, fun _ => ⟨k_X2_arrive, w_X2_arrive⟩⟩, List.forall_mem_cons.mpr ⟨⟨e_X3_init, fun _ => ⟨k_X3_init, w_X3_init⟩⟩, List.forall_mem_cons.mpr ⟨⟨e_X3_rule, fun _ => ⟨k_X3_rule, w_X3_rule⟩⟩, List.forall_mem_cons.mpr ⟨⟨e_X3_about, fun _ => ⟨k_X3_about, w_X3_about⟩⟩, List.forall_mem_cons.mpr ⟨⟨e_X3_swaps, fun _ => ⟨k_X3_swaps, w_X3_swaps⟩⟩, List.forall_mem_cons.mpr ⟨⟨e_X3_ring, fun _ => ⟨k_X3_ring, w_X3_ring⟩⟩, List.forall_mem_cons.mpr ⟨⟨e_X3_undo, fun _ => ⟨k_X3_undo, w_X3_undo⟩⟩, List.forall_mem_cons.mpr ⟨⟨e_X3_at, fun _ => ⟨k_X3_at, w_X3_at⟩⟩, List.forall_mem_cons.mpr ⟨⟨e_X3_find, fun _ => ⟨k_X3_find, w_X3_find⟩⟩, List.forall_mem_cons.mpr ⟨⟨e_X3_set, fun _ => ⟨k_X3_set, w_X3_set⟩⟩, List.forall_mem_cons.mpr ⟨⟨e_X3_peal, fun _ => ⟨k_X3_peal, w_X3_peal⟩⟩, List.forall_mem_cons.mpr ⟨⟨e_X3_add, fun _ => ⟨k_X3_add, w_X3_add⟩⟩, List.forall_mem_cons.mpr ⟨⟨e_X3_play, fun _ => ⟨k_X3_play, w_X3_play⟩⟩, List.forall_mem_cons.mpr ⟨⟨e_X3_told, fun _ => ⟨k_X3_told, w_X3_told⟩⟩, List.forall_mem_cons.mpr ⟨⟨e_X3_count, fun _ => ⟨k_X3_count, w_X3_count⟩⟩, List.forall_mem_cons.mpr ⟨⟨e_X3_steps, fun _ => ⟨k_X3_steps, w_X3_steps⟩⟩, List.forall_mem_cons.mpr ⟨⟨e_X3_next, fun _ => ⟨k_X3_next, w_X3_next⟩⟩, List.forall_mem_cons.mpr ⟨⟨e_X3_reach, fun _ => ⟨k_X3_reach, w_X3_reach⟩⟩, List.forall_mem_cons.mpr ⟨⟨e_X3_farthest, fun _ => ⟨k_X3_farthest, w_X3_farthest⟩⟩, List.forall_mem_cons.mpr ⟨⟨e_X3_mean, fun _ => ⟨k_X3_mean, w_X3_mean⟩⟩, List.forall_mem_cons.mpr ⟨⟨e_X3_digest, fun _ => ⟨k_X3_digest, w_X3_digest⟩⟩, List.forall_mem_cons.mpr ⟨⟨e_X3_isPlace, fun _ => ⟨k_X3_isPlace, w_X3_isPlace⟩⟩, List.forall_mem_cons.mpr ⟨⟨e_X3_requirePlace, fun _ => ⟨k_X3_requirePlace, w_X3_requirePlace⟩⟩, List.forall_mem_cons.mpr ⟨⟨e_X3_requireRule, fun _ => ⟨k_X3_requireRule, w_X3_requireRule⟩⟩, List.forall_mem_cons.mpr ⟨⟨e_X3_requirePeal, fun _ => ⟨k_X3_requirePeal, w_X3_requirePeal⟩⟩, List.forall_mem_cons.mpr ⟨⟨e_X3_requireRowCode, fun _ => ⟨k_X3_requireRowCode, w_X3_requireRowCode⟩⟩, List.forall_mem_cons.mpr ⟨⟨e_X3_isRowCode, fun _ => ⟨k_X3_isRowCode, w_X3_isRowCode⟩⟩, List.forall_mem_cons.mpr ⟨⟨e_X3_oddness, fun _ => ⟨k_X3_oddness, w_X3_oddness⟩⟩, List.forall_mem_cons.mpr ⟨⟨e_X3_factOfRule, fun _ => ⟨k_X3_factOfRule, w_X3_factOfRule⟩⟩, List.forall_mem_cons.mpr ⟨⟨e_X3_orderOfRule, fun _ => ⟨k_X3_orderOfRule, w_X3_orderOfRule⟩⟩, List.forall_mem_cons.mpr ⟨⟨e_X3_placesLeft, fun _ => ⟨k_X3_placesLeft, w_X3_placesLeft⟩⟩, List.forall_mem_cons.mpr ⟨⟨e_X3_groups, fun _ => ⟨k_X3_groups, w_X3_groups⟩⟩, List.forall_mem_cons.mpr ⟨⟨e_X3_undoer, fun _ => ⟨k_X3_undoer, w_X3_undoer⟩⟩, List.forall_mem_cons.mpr ⟨⟨e_X3_undoes, fun _ => ⟨k_X3_undoes, w_X3_undoes⟩⟩, List.forall_mem_cons.mpr ⟨⟨e_X3_ringPealOn, fun _ => ⟨k_X3_ringPealOn, w_X3_ringPealOn⟩⟩, List.forall_mem_cons.mpr ⟨⟨e_X3_factOfPeal, fun _ => ⟨k_X3_factOfPeal, w_X3_factOfPeal⟩⟩, List.forall_mem_cons.mpr ⟨⟨e_X3_isTrue, fun _ => ⟨k_X3_isTrue, w_X3_isTrue⟩⟩, List.forall_mem_cons.mpr ⟨⟨e_X3_orderOfPeal, fun _ => ⟨k_X3_orderOfPeal, w_X3_orderOfPeal⟩⟩, List.forall_mem_cons.mpr ⟨⟨e_X3_differentRows, fun _ => ⟨k_X3_differentRows, w_X3_differentRows⟩⟩, List.forall_mem_cons.mpr ⟨⟨e_X3_countOf, fun _ => ⟨k_X3_countOf, w_X3_countOf⟩⟩, List.forall_mem_cons.mpr ⟨⟨e_X3_fitWays, fun _ => ⟨k_X3_fitWays, w_X3_fitWays⟩⟩, List.forall_mem_cons.mpr ⟨⟨e_X3_rankSeenFromTheRow, fun _ => ⟨k_X3_rankSeenFromTheRow, w_X3_rankSeenFromTheRow⟩⟩, List.forall_mem_cons.mpr ⟨⟨e_X3_digestWithRule, fun _ => ⟨k_X3_digestWithRule, w_X3_digestWithRule⟩⟩, List.forall_mem_cons.mpr ⟨⟨e_X3_digestWithPeal, fun _ => ⟨k_X3_digestWithPeal, w_X3_digestWithPeal⟩⟩, List.forall_mem_cons.mpr ⟨⟨e_J7_fill_53178, fun _ => ⟨k_J7_fill_53178, w_J7_fill_53178⟩⟩, List.forall_mem_cons.mpr ⟨⟨e_L_below, fun _ => ⟨k_L_below, w_L_below⟩⟩, List.forall_mem_cons.mpr ⟨⟨e_L_cell, fun _ => ⟨k_L_cell, w_L_cell⟩⟩, List.forall_mem_cons.mpr ⟨⟨e_L_order, fun _ => ⟨k_L_order, w_L_order⟩⟩, List.forall_mem_cons.mpr ⟨⟨e_L_rule, fun _ => ⟨k_L_rule, w_L_rule⟩⟩, List.forall_mem_cons.mpr ⟨⟨e_L_code, fun _ => ⟨k_L_code, w_L_code⟩⟩, List.forall_mem_cons.mpr ⟨⟨e_L_rules, fun _ => ⟨k_L_rules, w_L_rules⟩⟩, List.forall_mem_cons.mpr ⟨⟨e_L_law, fun h => absurd rfl h⟩, fun _ h => absurd h List.not_mem_nil⟩⟩⟩⟩⟩⟩⟩⟩⟩⟩⟩⟩⟩⟩⟩⟩⟩⟩⟩⟩⟩⟩⟩⟩⟩⟩⟩⟩⟩⟩⟩⟩⟩⟩⟩⟩⟩⟩⟩⟩⟩⟩⟩⟩⟩⟩⟩⟩⟩⟩⟩⟩⟩⟩⟩⟩⟩⟩⟩⟩⟩⟩⟩⟩⟩⟩
