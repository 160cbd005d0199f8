set_option maxRecDepth 100000 in
theorem e_X0_init : (zi mX0_init).all (zent mX0_init) = true := by decide +kernel
set_option maxRecDepth 100000 in
theorem k_X0_init : zmtd mX0_init = true := by decide +kernel
set_option maxRecDepth 100000 in
theorem w_X0_init : lw_tbl[(zw mX0_init).getD 0 0]? = some (zcw mX0_init) := rfl
set_option maxRecDepth 100000 in
theorem e_X0_toRounds : (zi mX0_toRounds).all (zent mX0_toRounds) = true := by decide +kernel
set_option maxRecDepth 100000 in
theorem k_X0_toRounds : zmtd mX0_toRounds = true := by decide +kernel
set_option maxRecDepth 100000 in
theorem w_X0_toRounds : lw_tbl[(zw mX0_toRounds).getD 0 0]? = some (zcw mX0_toRounds) := rfl
set_option maxRecDepth 100000 in
theorem e_X0_read : (zi mX0_read).all (zent mX0_read) = true := by decide +kernel
set_option maxRecDepth 100000 in
theorem k_X0_read : zmtd mX0_read = true := by decide +kernel
set_option maxRecDepth 100000 in
theorem w_X0_read : lw_tbl[(zw mX0_read).getD 0 0]? = some (zcw mX0_read) := rfl
set_option maxRecDepth 100000 in
theorem e_X0_change : (zi mX0_change).all (zent mX0_change) = true := by decide +kernel
set_option maxRecDepth 100000 in
theorem k_X0_change : zmtd mX0_change = true := by decide +kernel
set_option maxRecDepth 100000 in
theorem w_X0_change : lw_tbl[(zw mX0_change).getD 0 0]? = some (zcw mX0_change) := rfl
set_option maxRecDepth 100000 in
theorem e_X0_changeBack : (zi mX0_changeBack).all (zent mX0_changeBack) = true := by decide +kernel
set_option maxRecDepth 100000 in
theorem k_X0_changeBack : zmtd mX0_changeBack = true := by decide +kernel
set_option maxRecDepth 100000 in
theorem w_X0_changeBack : lw_tbl[(zw mX0_changeBack).getD 0 0]? = some (zcw mX0_changeBack) := rfl
set_option maxRecDepth 100000 in
theorem e_X0_placeOf : (zi mX0_placeOf).all (zent mX0_placeOf) = true := by decide +kernel
set_option maxRecDepth 100000 in
theorem k_X0_placeOf : zmtd mX0_placeOf = true := by decide +kernel
set_option maxRecDepth 100000 in
theorem w_X0_placeOf : lw_tbl[(zw mX0_placeOf).getD 0 0]? = some (zcw mX0_placeOf) := rfl
set_option maxRecDepth 100000 in
theorem e_X0_code : (zi mX0_code).all (zent mX0_code) = true := by decide +kernel
set_option maxRecDepth 100000 in
theorem k_X0_code : zmtd mX0_code = true := by decide +kernel
set_option maxRecDepth 100000 in
theorem w_X0_code : lw_tbl[(zw mX0_code).getD 0 0]? = some (zcw mX0_code) := rfl
set_option maxRecDepth 100000 in
theorem e_X0_rank : (zi mX0_rank).all (zent mX0_rank) = true := by decide +kernel
set_option maxRecDepth 100000 in
theorem k_X0_rank : zmtd mX0_rank = true := by decide +kernel
set_option maxRecDepth 100000 in
theorem w_X0_rank : lw_tbl[(zw mX0_rank).getD 0 0]? = some (zcw mX0_rank) := rfl
set_option maxRecDepth 100000 in
theorem e_X1_init : (zi mX1_init).all (zent mX1_init) = true := by decide +kernel
set_option maxRecDepth 100000 in
theorem k_X1_init : zmtd mX1_init = true := by decide +kernel
set_option maxRecDepth 100000 in
theorem w_X1_init : lw_tbl[(zw mX1_init).getD 0 0]? = some (zcw mX1_init) := rfl
set_option maxRecDepth 100000 in
theorem e_X1_clear : (zi mX1_clear).all (zent mX1_clear) = true := by decide +kernel
set_option maxRecDepth 100000 in
theorem k_X1_clear : zmtd mX1_clear = true := by decide +kernel
set_option maxRecDepth 100000 in
theorem w_X1_clear : lw_tbl[(zw mX1_clear).getD 0 0]? = some (zcw mX1_clear) := rfl
set_option maxRecDepth 100000 in
theorem e_X1_mark : (zi mX1_mark).all (zent mX1_mark) = true := by decide +kernel
set_option maxRecDepth 100000 in
theorem k_X1_mark : zmtd mX1_mark = true := by decide +kernel
set_option maxRecDepth 100000 in
theorem w_X1_mark : lw_tbl[(zw mX1_mark).getD 0 0]? = some (zcw mX1_mark) := rfl
set_option maxRecDepth 100000 in
theorem e_X2_init : (zi mX2_init).all (zent mX2_init) = true := by decide +kernel
set_option maxRecDepth 100000 in
theorem k_X2_init : zmtd mX2_init = true := by decide +kernel
set_option maxRecDepth 100000 in
theorem w_X2_init : lw_tbl[(zw mX2_init).getD 0 0]? = some (zcw mX2_init) := rfl
set_option maxRecDepth 100000 in
theorem e_X2_explore : (zi mX2_explore).all (zent mX2_explore) = true := by decide +kernel
set_option maxRecDepth 100000 in
theorem k_X2_explore : zmtd mX2_explore = true := by decide +kernel
set_option maxRecDepth 100000 in
theorem w_X2_explore : lw_tbl[(zw mX2_explore).getD 0 0]? = some (zcw mX2_explore) := rfl
set_option maxRecDepth 100000 in
theorem e_X2_begin : (zi mX2_begin).all (zent mX2_begin) = true := by decide +kernel
set_option maxRecDepth 100000 in
theorem k_X2_begin : zmtd mX2_begin = true := by decide +kernel
set_option maxRecDepth 100000 in
theorem w_X2_begin : lw_tbl[(zw mX2_begin).getD 0 0]? = some (zcw mX2_begin) := rfl
set_option maxRecDepth 100000 in
theorem e_X2_arrive : (zi mX2_arrive).all (zent mX2_arrive) = true := by decide +kernel
set_option maxRecDepth 100000 in
theorem k_X2_arrive : zmtd mX2_arrive = true := by decide +kernel
set_option maxRecDepth 100000 in
theorem w_X2_arrive : lw_tbl[(zw mX2_arrive).getD 0 0]? = some (zcw mX2_arrive) := rfl
set_option maxRecDepth 100000 in
theorem e_X3_init : (zi mX3_init).all (zent mX3_init) = true := by decide +kernel
set_option maxRecDepth 100000 in
theorem k_X3_init : zmtd mX3_init = true := by decide +kernel
set_option maxRecDepth 100000 in
theorem w_X3_init : lw_tbl[(zw mX3_init).getD 0 0]? = some (zcw mX3_init) := rfl
set_option maxRecDepth 100000 in
theorem e_X3_rule : (zi mX3_rule).all (zent mX3_rule) = true := by decide +kernel
set_option maxRecDepth 100000 in
theorem k_X3_rule : zmtd mX3_rule = true := by decide +kernel
set_option maxRecDepth 100000 in
theorem w_X3_rule : lw_tbl[(zw mX3_rule).getD 0 0]? = some (zcw mX3_rule) := rfl
set_option maxRecDepth 100000 in
theorem e_X3_goes : (zi mX3_goes).all (zent mX3_goes) = true := by decide +kernel
set_option maxRecDepth 100000 in
theorem k_X3_goes : zmtd mX3_goes = true := by decide +kernel
set_option maxRecDepth 100000 in
theorem w_X3_goes : lw_tbl[(zw mX3_goes).getD 0 0]? = some (zcw mX3_goes) := rfl
set_option maxRecDepth 100000 in
theorem e_X3_about : (zi mX3_about).all (zent mX3_about) = true := by decide +kernel
set_option maxRecDepth 100000 in
theorem k_X3_about : zmtd mX3_about = true := by decide +kernel
set_option maxRecDepth 100000 in
theorem w_X3_about : lw_tbl[(zw mX3_about).getD 0 0]? = some (zcw mX3_about) := rfl
set_option maxRecDepth 100000 in
theorem e_X3_swaps : (zi mX3_swaps).all (zent mX3_swaps) = true := by decide +kernel
set_option maxRecDepth 100000 in
theorem k_X3_swaps : zmtd mX3_swaps = true := by decide +kernel
set_option maxRecDepth 100000 in
theorem w_X3_swaps : lw_tbl[(zw mX3_swaps).getD 0 0]? = some (zcw mX3_swaps) := rfl
set_option maxRecDepth 100000 in
theorem e_X3_ring : (zi mX3_ring).all (zent mX3_ring) = true := by decide +kernel
set_option maxRecDepth 100000 in
theorem k_X3_ring : zmtd mX3_ring = true := by decide +kernel
set_option maxRecDepth 100000 in
theorem w_X3_ring : lw_tbl[(zw mX3_ring).getD 0 0]? = some (zcw mX3_ring) := rfl
set_option maxRecDepth 100000 in
theorem e_X3_undo : (zi mX3_undo).all (zent mX3_undo) = true := by decide +kernel
set_option maxRecDepth 100000 in
theorem k_X3_undo : zmtd mX3_undo = true := by decide +kernel
set_option maxRecDepth 100000 in
theorem w_X3_undo : lw_tbl[(zw mX3_undo).getD 0 0]? = some (zcw mX3_undo) := rfl
set_option maxRecDepth 100000 in
theorem e_X3_at : (zi mX3_at).all (zent mX3_at) = true := by decide +kernel
set_option maxRecDepth 100000 in
theorem k_X3_at : zmtd mX3_at = true := by decide +kernel
set_option maxRecDepth 100000 in
theorem w_X3_at : lw_tbl[(zw mX3_at).getD 0 0]? = some (zcw mX3_at) := rfl
set_option maxRecDepth 100000 in
theorem e_X3_find : (zi mX3_find).all (zent mX3_find) = true := by decide +kernel
set_option maxRecDepth 100000 in
theorem k_X3_find : zmtd mX3_find = true := by decide +kernel
set_option maxRecDepth 100000 in
theorem w_X3_find : lw_tbl[(zw mX3_find).getD 0 0]? = some (zcw mX3_find) := rfl
set_option maxRecDepth 100000 in
theorem e_X3_set : (zi mX3_set).all (zent mX3_set) = true := by decide +kernel
set_option maxRecDepth 100000 in
theorem k_X3_set : zmtd mX3_set = true := by decide +kernel
set_option maxRecDepth 100000 in
theorem w_X3_set : lw_tbl[(zw mX3_set).getD 0 0]? = some (zcw mX3_set) := rfl
set_option maxRecDepth 100000 in
theorem e_X3_peal : (zi mX3_peal).all (zent mX3_peal) = true := by decide +kernel
set_option maxRecDepth 100000 in
theorem k_X3_peal : zmtd mX3_peal = true := by decide +kernel
set_option maxRecDepth 100000 in
theorem w_X3_peal : lw_tbl[(zw mX3_peal).getD 0 0]? = some (zcw mX3_peal) := rfl
set_option maxRecDepth 100000 in
theorem e_X3_add : (zi mX3_add).all (zent mX3_add) = true := by decide +kernel
set_option maxRecDepth 100000 in
theorem k_X3_add : zmtd mX3_add = true := by decide +kernel
set_option maxRecDepth 100000 in
theorem w_X3_add : lw_tbl[(zw mX3_add).getD 0 0]? = some (zcw mX3_add) := rfl
set_option maxRecDepth 100000 in
theorem e_X3_play : (zi mX3_play).all (zent mX3_play) = true := by decide +kernel
set_option maxRecDepth 100000 in
theorem k_X3_play : zmtd mX3_play = true := by decide +kernel
set_option maxRecDepth 100000 in
theorem w_X3_play : lw_tbl[(zw mX3_play).getD 0 0]? = some (zcw mX3_play) := rfl
set_option maxRecDepth 100000 in
theorem e_X3_told : (zi mX3_told).all (zent mX3_told) = true := by decide +kernel
set_option maxRecDepth 100000 in
theorem k_X3_told : zmtd mX3_told = true := by decide +kernel
set_option maxRecDepth 100000 in
theorem w_X3_told : lw_tbl[(zw mX3_told).getD 0 0]? = some (zcw mX3_told) := rfl
set_option maxRecDepth 100000 in
theorem e_X3_count : (zi mX3_count).all (zent mX3_count) = true := by decide +kernel
set_option maxRecDepth 100000 in
theorem k_X3_count : zmtd mX3_count = true := by decide +kernel
set_option maxRecDepth 100000 in
theorem w_X3_count : lw_tbl[(zw mX3_count).getD 0 0]? = some (zcw mX3_count) := rfl
set_option maxRecDepth 100000 in
theorem e_X3_steps : (zi mX3_steps).all (zent mX3_steps) = true := by decide +kernel
set_option maxRecDepth 100000 in
theorem k_X3_steps : zmtd mX3_steps = true := by decide +kernel
set_option maxRecDepth 100000 in
theorem w_X3_steps : lw_tbl[(zw mX3_steps).getD 0 0]? = some (zcw mX3_steps) := rfl
set_option maxRecDepth 100000 in
theorem e_X3_next : (zi mX3_next).all (zent mX3_next) = true := by decide +kernel
set_option maxRecDepth 100000 in
theorem k_X3_next : zmtd mX3_next = true := by decide +kernel
set_option maxRecDepth 100000 in
theorem w_X3_next : lw_tbl[(zw mX3_next).getD 0 0]? = some (zcw mX3_next) := rfl
set_option maxRecDepth 100000 in
theorem e_X3_reach : (zi mX3_reach).all (zent mX3_reach) = true := by decide +kernel
set_option maxRecDepth 100000 in
theorem k_X3_reach : zmtd mX3_reach = true := by decide +kernel
set_option maxRecDepth 100000 in
theorem w_X3_reach : lw_tbl[(zw mX3_reach).getD 0 0]? = some (zcw mX3_reach) := rfl
set_option maxRecDepth 100000 in
theorem e_X3_farthest : (zi mX3_farthest).all (zent mX3_farthest) = true := by decide +kernel
set_option maxRecDepth 100000 in
theorem k_X3_farthest : zmtd mX3_farthest = true := by decide +kernel
set_option maxRecDepth 100000 in
theorem w_X3_farthest : lw_tbl[(zw mX3_farthest).getD 0 0]? = some (zcw mX3_farthest) := rfl
set_option maxRecDepth 100000 in
theorem e_X3_mean : (zi mX3_mean).all (zent mX3_mean) = true := by decide +kernel
set_option maxRecDepth 100000 in
theorem k_X3_mean : zmtd mX3_mean = true := by decide +kernel
set_option maxRecDepth 100000 in
theorem w_X3_mean : lw_tbl[(zw mX3_mean).getD 0 0]? = some (zcw mX3_mean) := rfl
set_option maxRecDepth 100000 in
theorem e_X3_digest : (zi mX3_digest).all (zent mX3_digest) = true := by decide +kernel
set_option maxRecDepth 100000 in
theorem k_X3_digest : zmtd mX3_digest = true := by decide +kernel
set_option maxRecDepth 100000 in
theorem w_X3_digest : lw_tbl[(zw mX3_digest).getD 0 0]? = some (zcw mX3_digest) := rfl
set_option maxRecDepth 100000 in
theorem e_X3_isPlace : (zi mX3_isPlace).all (zent mX3_isPlace) = true := by decide +kernel
set_option maxRecDepth 100000 in
theorem k_X3_isPlace : zmtd mX3_isPlace = true := by decide +kernel
set_option maxRecDepth 100000 in
theorem w_X3_isPlace : lw_tbl[(zw mX3_isPlace).getD 0 0]? = some (zcw mX3_isPlace) := rfl
set_option maxRecDepth 100000 in
theorem e_X3_requirePlace : (zi mX3_requirePlace).all (zent mX3_requirePlace) = true := by decide +kernel
set_option maxRecDepth 100000 in
theorem k_X3_requirePlace : zmtd mX3_requirePlace = true := by decide +kernel
set_option maxRecDepth 100000 in
theorem w_X3_requirePlace : lw_tbl[(zw mX3_requirePlace).getD 0 0]? = some (zcw mX3_requirePlace) := rfl
set_option maxRecDepth 100000 in
theorem e_X3_requireRule : (zi mX3_requireRule).all (zent mX3_requireRule) = true := by decide +kernel
set_option maxRecDepth 100000 in
theorem k_X3_requireRule : zmtd mX3_requireRule = true := by decide +kernel
set_option maxRecDepth 100000 in
theorem w_X3_requireRule : lw_tbl[(zw mX3_requireRule).getD 0 0]? = some (zcw mX3_requireRule) := rfl
set_option maxRecDepth 100000 in
theorem e_X3_requirePeal : (zi mX3_requirePeal).all (zent mX3_requirePeal) = true := by decide +kernel
set_option maxRecDepth 100000 in
theorem k_X3_requirePeal : zmtd mX3_requirePeal = true := by decide +kernel
set_option maxRecDepth 100000 in
theorem w_X3_requirePeal : lw_tbl[(zw mX3_requirePeal).getD 0 0]? = some (zcw mX3_requirePeal) := rfl
set_option maxRecDepth 100000 in
theorem e_X3_requireRowCode : (zi mX3_requireRowCode).all (zent mX3_requireRowCode) = true := by decide +kernel
set_option maxRecDepth 100000 in
theorem k_X3_requireRowCode : zmtd mX3_requireRowCode = true := by decide +kernel
set_option maxRecDepth 100000 in
theorem w_X3_requireRowCode : lw_tbl[(zw mX3_requireRowCode).getD 0 0]? = some (zcw mX3_requireRowCode) := rfl
set_option maxRecDepth 100000 in
theorem e_X3_isRowCode : (zi mX3_isRowCode).all (zent mX3_isRowCode) = true := by decide +kernel
set_option maxRecDepth 100000 in
theorem k_X3_isRowCode : zmtd mX3_isRowCode = true := by decide +kernel
set_option maxRecDepth 100000 in
theorem w_X3_isRowCode : lw_tbl[(zw mX3_isRowCode).getD 0 0]? = some (zcw mX3_isRowCode) := rfl
set_option maxRecDepth 100000 in
theorem e_X3_oddness : (zi mX3_oddness).all (zent mX3_oddness) = true := by decide +kernel
set_option maxRecDepth 100000 in
theorem k_X3_oddness : zmtd mX3_oddness = true := by decide +kernel
set_option maxRecDepth 100000 in
theorem w_X3_oddness : lw_tbl[(zw mX3_oddness).getD 0 0]? = some (zcw mX3_oddness) := rfl
set_option maxRecDepth 100000 in
theorem e_X3_factOfRule : (zi mX3_factOfRule).all (zent mX3_factOfRule) = true := by decide +kernel
set_option maxRecDepth 100000 in
theorem k_X3_factOfRule : zmtd mX3_factOfRule = true := by decide +kernel
set_option maxRecDepth 100000 in
theorem w_X3_factOfRule : lw_tbl[(zw mX3_factOfRule).getD 0 0]? = some (zcw mX3_factOfRule) := rfl
set_option maxRecDepth 100000 in
theorem e_X3_orderOfRule : (zi mX3_orderOfRule).all (zent mX3_orderOfRule) = true := by decide +kernel
set_option maxRecDepth 100000 in
theorem k_X3_orderOfRule : zmtd mX3_orderOfRule = true := by decide +kernel
set_option maxRecDepth 100000 in
theorem w_X3_orderOfRule : lw_tbl[(zw mX3_orderOfRule).getD 0 0]? = some (zcw mX3_orderOfRule) := rfl
set_option maxRecDepth 100000 in
theorem e_X3_placesLeft : (zi mX3_placesLeft).all (zent mX3_placesLeft) = true := by decide +kernel
set_option maxRecDepth 100000 in
theorem k_X3_placesLeft : zmtd mX3_placesLeft = true := by decide +kernel
set_option maxRecDepth 100000 in
theorem w_X3_placesLeft : lw_tbl[(zw mX3_placesLeft).getD 0 0]? = some (zcw mX3_placesLeft) := rfl
set_option maxRecDepth 100000 in
theorem e_X3_groups : (zi mX3_groups).all (zent mX3_groups) = true := by decide +kernel
set_option maxRecDepth 100000 in
theorem k_X3_groups : zmtd mX3_groups = true := by decide +kernel
set_option maxRecDepth 100000 in
theorem w_X3_groups : lw_tbl[(zw mX3_groups).getD 0 0]? = some (zcw mX3_groups) := rfl
set_option maxRecDepth 100000 in
theorem e_X3_undoer : (zi mX3_undoer).all (zent mX3_undoer) = true := by decide +kernel
set_option maxRecDepth 100000 in
theorem k_X3_undoer : zmtd mX3_undoer = true := by decide +kernel
set_option maxRecDepth 100000 in
theorem w_X3_undoer : lw_tbl[(zw mX3_undoer).getD 0 0]? = some (zcw mX3_undoer) := rfl
set_option maxRecDepth 100000 in
theorem e_X3_undoes : (zi mX3_undoes).all (zent mX3_undoes) = true := by decide +kernel
set_option maxRecDepth 100000 in
theorem k_X3_undoes : zmtd mX3_undoes = true := by decide +kernel
set_option maxRecDepth 100000 in
theorem w_X3_undoes : lw_tbl[(zw mX3_undoes).getD 0 0]? = some (zcw mX3_undoes) := rfl
set_option maxRecDepth 100000 in
theorem e_X3_ringPealOn : (zi mX3_ringPealOn).all (zent mX3_ringPealOn) = true := by decide +kernel
set_option maxRecDepth 100000 in
theorem k_X3_ringPealOn : zmtd mX3_ringPealOn = true := by decide +kernel
set_option maxRecDepth 100000 in
theorem w_X3_ringPealOn : lw_tbl[(zw mX3_ringPealOn).getD 0 0]? = some (zcw mX3_ringPealOn) := rfl
set_option maxRecDepth 100000 in
theorem e_X3_factOfPeal : (zi mX3_factOfPeal).all (zent mX3_factOfPeal) = true := by decide +kernel
set_option maxRecDepth 100000 in
theorem k_X3_factOfPeal : zmtd mX3_factOfPeal = true := by decide +kernel
set_option maxRecDepth 100000 in
theorem w_X3_factOfPeal : lw_tbl[(zw mX3_factOfPeal).getD 0 0]? = some (zcw mX3_factOfPeal) := rfl
set_option maxRecDepth 100000 in
theorem e_X3_isTrue : (zi mX3_isTrue).all (zent mX3_isTrue) = true := by decide +kernel
set_option maxRecDepth 100000 in
theorem k_X3_isTrue : zmtd mX3_isTrue = true := by decide +kernel
set_option maxRecDepth 100000 in
theorem w_X3_isTrue : lw_tbl[(zw mX3_isTrue).getD 0 0]? = some (zcw mX3_isTrue) := rfl
set_option maxRecDepth 100000 in
theorem e_X3_orderOfPeal : (zi mX3_orderOfPeal).all (zent mX3_orderOfPeal) = true := by decide +kernel
set_option maxRecDepth 100000 in
theorem k_X3_orderOfPeal : zmtd mX3_orderOfPeal = true := by decide +kernel
set_option maxRecDepth 100000 in
theorem w_X3_orderOfPeal : lw_tbl[(zw mX3_orderOfPeal).getD 0 0]? = some (zcw mX3_orderOfPeal) := rfl
set_option maxRecDepth 100000 in
theorem e_X3_differentRows : (zi mX3_differentRows).all (zent mX3_differentRows) = true := by decide +kernel
set_option maxRecDepth 100000 in
theorem k_X3_differentRows : zmtd mX3_differentRows = true := by decide +kernel
set_option maxRecDepth 100000 in
theorem w_X3_differentRows : lw_tbl[(zw mX3_differentRows).getD 0 0]? = some (zcw mX3_differentRows) := rfl
set_option maxRecDepth 100000 in
theorem e_X3_countOf : (zi mX3_countOf).all (zent mX3_countOf) = true := by decide +kernel
set_option maxRecDepth 100000 in
theorem k_X3_countOf : zmtd mX3_countOf = true := by decide +kernel
set_option maxRecDepth 100000 in
theorem w_X3_countOf : lw_tbl[(zw mX3_countOf).getD 0 0]? = some (zcw mX3_countOf) := rfl
set_option maxRecDepth 100000 in
theorem e_X3_fitWays : (zi mX3_fitWays).all (zent mX3_fitWays) = true := by decide +kernel
set_option maxRecDepth 100000 in
theorem k_X3_fitWays : zmtd mX3_fitWays = true := by decide +kernel
set_option maxRecDepth 100000 in
theorem w_X3_fitWays : lw_tbl[(zw mX3_fitWays).getD 0 0]? = some (zcw mX3_fitWays) := rfl
set_option maxRecDepth 100000 in
theorem e_X3_rankSeenFromTheRow : (zi mX3_rankSeenFromTheRow).all (zent mX3_rankSeenFromTheRow) = true := by decide +kernel
set_option maxRecDepth 100000 in
theorem k_X3_rankSeenFromTheRow : zmtd mX3_rankSeenFromTheRow = true := by decide +kernel
set_option maxRecDepth 100000 in
theorem w_X3_rankSeenFromTheRow : lw_tbl[(zw mX3_rankSeenFromTheRow).getD 0 0]? = some (zcw mX3_rankSeenFromTheRow) := rfl
set_option maxRecDepth 100000 in
theorem e_X3_digestWithRule : (zi mX3_digestWithRule).all (zent mX3_digestWithRule) = true := by decide +kernel
set_option maxRecDepth 100000 in
theorem k_X3_digestWithRule : zmtd mX3_digestWithRule = true := by decide +kernel
set_option maxRecDepth 100000 in
theorem w_X3_digestWithRule : lw_tbl[(zw mX3_digestWithRule).getD 0 0]? = some (zcw mX3_digestWithRule) := rfl
set_option maxRecDepth 100000 in
theorem e_X3_digestWithPeal : (zi mX3_digestWithPeal).all (zent mX3_digestWithPeal) = true := by decide +kernel
set_option maxRecDepth 100000 in
theorem k_X3_digestWithPeal : zmtd mX3_digestWithPeal = true := by decide +kernel
set_option maxRecDepth 100000 in
theorem w_X3_digestWithPeal : lw_tbl[(zw mX3_digestWithPeal).getD 0 0]? = some (zcw mX3_digestWithPeal) := rfl
set_option maxRecDepth 100000 in
theorem e_X4_init : (zi mX4_init).all (zent mX4_init) = true := by decide +kernel
set_option maxRecDepth 100000 in
theorem k_X4_init : zmtd mX4_init = true := by decide +kernel
set_option maxRecDepth 100000 in
theorem w_X4_init : lw_tbl[(zw mX4_init).getD 0 0]? = some (zcw mX4_init) := rfl
set_option maxRecDepth 100000 in
theorem e_X4_thrown : (zi mX4_thrown).all (zent mX4_thrown) = true := by decide +kernel
set_option maxRecDepth 100000 in
theorem k_X4_thrown : zmtd mX4_thrown = true := by decide +kernel
set_option maxRecDepth 100000 in
theorem w_X4_thrown : lw_tbl[(zw mX4_thrown).getD 0 0]? = some (zcw mX4_thrown) := rfl
set_option maxRecDepth 100000 in
theorem e_X4_no : (zi mX4_no).all (zent mX4_no) = true := by decide +kernel
set_option maxRecDepth 100000 in
theorem k_X4_no : zmtd mX4_no = true := by decide +kernel
set_option maxRecDepth 100000 in
theorem w_X4_no : lw_tbl[(zw mX4_no).getD 0 0]? = some (zcw mX4_no) := rfl
set_option maxRecDepth 100000 in
theorem e_X4_isIn : (zi mX4_isIn).all (zent mX4_isIn) = true := by decide +kernel
set_option maxRecDepth 100000 in
theorem k_X4_isIn : zmtd mX4_isIn = true := by decide +kernel
set_option maxRecDepth 100000 in
theorem w_X4_isIn : lw_tbl[(zw mX4_isIn).getD 0 0]? = some (zcw mX4_isIn) := rfl
set_option maxRecDepth 100000 in
theorem e_X4_isPlace : (zi mX4_isPlace).all (zent mX4_isPlace) = true := by decide +kernel
set_option maxRecDepth 100000 in
theorem k_X4_isPlace : zmtd mX4_isPlace = true := by decide +kernel
set_option maxRecDepth 100000 in
theorem w_X4_isPlace : lw_tbl[(zw mX4_isPlace).getD 0 0]? = some (zcw mX4_isPlace) := rfl
set_option maxRecDepth 100000 in
theorem e_X4_isRule : (zi mX4_isRule).all (zent mX4_isRule) = true := by decide +kernel
set_option maxRecDepth 100000 in
theorem k_X4_isRule : zmtd mX4_isRule = true := by decide +kernel
set_option maxRecDepth 100000 in
theorem w_X4_isRule : lw_tbl[(zw mX4_isRule).getD 0 0]? = some (zcw mX4_isRule) := rfl
set_option maxRecDepth 100000 in
theorem e_X4_isPeal : (zi mX4_isPeal).all (zent mX4_isPeal) = true := by decide +kernel
set_option maxRecDepth 100000 in
theorem k_X4_isPeal : zmtd mX4_isPeal = true := by decide +kernel
set_option maxRecDepth 100000 in
theorem w_X4_isPeal : lw_tbl[(zw mX4_isPeal).getD 0 0]? = some (zcw mX4_isPeal) := rfl
set_option maxRecDepth 100000 in
theorem e_X4_digit : (zi mX4_digit).all (zent mX4_digit) = true := by decide +kernel
set_option maxRecDepth 100000 in
theorem k_X4_digit : zmtd mX4_digit = true := by decide +kernel
set_option maxRecDepth 100000 in
theorem w_X4_digit : lw_tbl[(zw mX4_digit).getD 0 0]? = some (zcw mX4_digit) := rfl
set_option maxRecDepth 100000 in
theorem e_X4_isRow : (zi mX4_isRow).all (zent mX4_isRow) = true := by decide +kernel
set_option maxRecDepth 100000 in
theorem k_X4_isRow : zmtd mX4_isRow = true := by decide +kernel
set_option maxRecDepth 100000 in
theorem w_X4_isRow : lw_tbl[(zw mX4_isRow).getD 0 0]? = some (zcw mX4_isRow) := rfl
set_option maxRecDepth 100000 in
theorem e_X4_to : (zi mX4_to).all (zent mX4_to) = true := by decide +kernel
set_option maxRecDepth 100000 in
theorem k_X4_to : zmtd mX4_to = true := by decide +kernel
set_option maxRecDepth 100000 in
theorem w_X4_to : lw_tbl[(zw mX4_to).getD 0 0]? = some (zcw mX4_to) := rfl
set_option maxRecDepth 100000 in
theorem e_X4_ringed : (zi mX4_ringed).all (zent mX4_ringed) = true := by decide +kernel
set_option maxRecDepth 100000 in
theorem k_X4_ringed : zmtd mX4_ringed = true := by decide +kernel
set_option maxRecDepth 100000 in
theorem w_X4_ringed : lw_tbl[(zw mX4_ringed).getD 0 0]? = some (zcw mX4_ringed) := rfl
set_option maxRecDepth 100000 in
theorem e_X4_undone : (zi mX4_undone).all (zent mX4_undone) = true := by decide +kernel
set_option maxRecDepth 100000 in
theorem k_X4_undone : zmtd mX4_undone = true := by decide +kernel
set_option maxRecDepth 100000 in
theorem w_X4_undone : lw_tbl[(zw mX4_undone).getD 0 0]? = some (zcw mX4_undone) := rfl
set_option maxRecDepth 100000 in
theorem e_X4_rule : (zi mX4_rule).all (zent mX4_rule) = true := by decide +kernel
set_option maxRecDepth 100000 in
theorem k_X4_rule : zmtd mX4_rule = true := by decide +kernel
set_option maxRecDepth 100000 in
theorem w_X4_rule : lw_tbl[(zw mX4_rule).getD 0 0]? = some (zcw mX4_rule) := rfl
set_option maxRecDepth 100000 in
theorem e_X4_goes : (zi mX4_goes).all (zent mX4_goes) = true := by decide +kernel
set_option maxRecDepth 100000 in
theorem k_X4_goes : zmtd mX4_goes = true := by decide +kernel
set_option maxRecDepth 100000 in
theorem w_X4_goes : lw_tbl[(zw mX4_goes).getD 0 0]? = some (zcw mX4_goes) := rfl
set_option maxRecDepth 100000 in
theorem e_X4_order : (zi mX4_order).all (zent mX4_order) = true := by decide +kernel
set_option maxRecDepth 100000 in
theorem k_X4_order : zmtd mX4_order = true := by decide +kernel
set_option maxRecDepth 100000 in
theorem w_X4_order : lw_tbl[(zw mX4_order).getD 0 0]? = some (zcw mX4_order) := rfl
set_option maxRecDepth 100000 in
theorem e_X4_odd : (zi mX4_odd).all (zent mX4_odd) = true := by decide +kernel
set_option maxRecDepth 100000 in
theorem k_X4_odd : zmtd mX4_odd = true := by decide +kernel
set_option maxRecDepth 100000 in
theorem w_X4_odd : lw_tbl[(zw mX4_odd).getD 0 0]? = some (zcw mX4_odd) := rfl
set_option maxRecDepth 100000 in
theorem e_X4_groups : (zi mX4_groups).all (zent mX4_groups) = true := by decide +kernel
set_option maxRecDepth 100000 in
theorem k_X4_groups : zmtd mX4_groups = true := by decide +kernel
set_option maxRecDepth 100000 in
theorem w_X4_groups : lw_tbl[(zw mX4_groups).getD 0 0]? = some (zcw mX4_groups) := rfl
set_option maxRecDepth 100000 in
theorem e_X4_undoes : (zi mX4_undoes).all (zent mX4_undoes) = true := by decide +kernel
set_option maxRecDepth 100000 in
theorem k_X4_undoes : zmtd mX4_undoes = true := by decide +kernel
set_option maxRecDepth 100000 in
theorem w_X4_undoes : lw_tbl[(zw mX4_undoes).getD 0 0]? = some (zcw mX4_undoes) := rfl
set_option maxRecDepth 100000 in
theorem e_X4_aboutTold : (zi mX4_aboutTold).all (zent mX4_aboutTold) = true := by decide +kernel
set_option maxRecDepth 100000 in
theorem k_X4_aboutTold : zmtd mX4_aboutTold = true := by decide +kernel
set_option maxRecDepth 100000 in
theorem w_X4_aboutTold : lw_tbl[(zw mX4_aboutTold).getD 0 0]? = some (zcw mX4_aboutTold) := rfl
set_option maxRecDepth 100000 in
theorem e_X4_about : (zi mX4_about).all (zent mX4_about) = true := by decide +kernel
set_option maxRecDepth 100000 in
theorem k_X4_about : zmtd mX4_about = true := by decide +kernel
set_option maxRecDepth 100000 in
theorem w_X4_about : lw_tbl[(zw mX4_about).getD 0 0]? = some (zcw mX4_about) := rfl
set_option maxRecDepth 100000 in
theorem e_X4_swaps : (zi mX4_swaps).all (zent mX4_swaps) = true := by decide +kernel
set_option maxRecDepth 100000 in
theorem k_X4_swaps : zmtd mX4_swaps = true := by decide +kernel
set_option maxRecDepth 100000 in
theorem w_X4_swaps : lw_tbl[(zw mX4_swaps).getD 0 0]? = some (zcw mX4_swaps) := rfl
set_option maxRecDepth 100000 in
theorem e_X4_ring : (zi mX4_ring).all (zent mX4_ring) = true := by decide +kernel
set_option maxRecDepth 100000 in
theorem k_X4_ring : zmtd mX4_ring = true := by decide +kernel
set_option maxRecDepth 100000 in
theorem w_X4_ring : lw_tbl[(zw mX4_ring).getD 0 0]? = some (zcw mX4_ring) := rfl
set_option maxRecDepth 100000 in
theorem e_X4_undo : (zi mX4_undo).all (zent mX4_undo) = true := by decide +kernel
set_option maxRecDepth 100000 in
theorem k_X4_undo : zmtd mX4_undo = true := by decide +kernel
set_option maxRecDepth 100000 in
theorem w_X4_undo : lw_tbl[(zw mX4_undo).getD 0 0]? = some (zcw mX4_undo) := rfl
set_option maxRecDepth 100000 in
theorem e_X4_at : (zi mX4_at).all (zent mX4_at) = true := by decide +kernel
set_option maxRecDepth 100000 in
theorem k_X4_at : zmtd mX4_at = true := by decide +kernel
set_option maxRecDepth 100000 in
theorem w_X4_at : lw_tbl[(zw mX4_at).getD 0 0]? = some (zcw mX4_at) := rfl
set_option maxRecDepth 100000 in
theorem e_X4_find : (zi mX4_find).all (zent mX4_find) = true := by decide +kernel
set_option maxRecDepth 100000 in
theorem k_X4_find : zmtd mX4_find = true := by decide +kernel
set_option maxRecDepth 100000 in
theorem w_X4_find : lw_tbl[(zw mX4_find).getD 0 0]? = some (zcw mX4_find) := rfl
set_option maxRecDepth 100000 in
theorem e_X4_set : (zi mX4_set).all (zent mX4_set) = true := by decide +kernel
set_option maxRecDepth 100000 in
theorem k_X4_set : zmtd mX4_set = true := by decide +kernel
set_option maxRecDepth 100000 in
theorem w_X4_set : lw_tbl[(zw mX4_set).getD 0 0]? = some (zcw mX4_set) := rfl
set_option maxRecDepth 100000 in
theorem e_X4_peal : (zi mX4_peal).all (zent mX4_peal) = true := by decide +kernel
set_option maxRecDepth 100000 in
theorem k_X4_peal : zmtd mX4_peal = true := by decide +kernel
set_option maxRecDepth 100000 in
theorem w_X4_peal : lw_tbl[(zw mX4_peal).getD 0 0]? = some (zcw mX4_peal) := rfl
set_option maxRecDepth 100000 in
theorem e_X4_add : (zi mX4_add).all (zent mX4_add) = true := by decide +kernel
set_option maxRecDepth 100000 in
theorem k_X4_add : zmtd mX4_add = true := by decide +kernel
set_option maxRecDepth 100000 in
theorem w_X4_add : lw_tbl[(zw mX4_add).getD 0 0]? = some (zcw mX4_add) := rfl
set_option maxRecDepth 100000 in
theorem e_X4_played : (zi mX4_played).all (zent mX4_played) = true := by decide +kernel
set_option maxRecDepth 100000 in
theorem k_X4_played : zmtd mX4_played = true := by decide +kernel
set_option maxRecDepth 100000 in
theorem w_X4_played : lw_tbl[(zw mX4_played).getD 0 0]? = some (zcw mX4_played) := rfl
set_option maxRecDepth 100000 in
theorem e_X4_play : (zi mX4_play).all (zent mX4_play) = true := by decide +kernel
set_option maxRecDepth 100000 in
theorem k_X4_play : zmtd mX4_play = true := by decide +kernel
set_option maxRecDepth 100000 in
theorem w_X4_play : lw_tbl[(zw mX4_play).getD 0 0]? = some (zcw mX4_play) := rfl
set_option maxRecDepth 100000 in
theorem e_X4_forget : (zi mX4_forget).all (zent mX4_forget) = true := by decide +kernel
set_option maxRecDepth 100000 in
theorem k_X4_forget : zmtd mX4_forget = true := by decide +kernel
set_option maxRecDepth 100000 in
theorem w_X4_forget : lw_tbl[(zw mX4_forget).getD 0 0]? = some (zcw mX4_forget) := rfl
set_option maxRecDepth 100000 in
theorem e_X4_comes : (zi mX4_comes).all (zent mX4_comes) = true := by decide +kernel
set_option maxRecDepth 100000 in
theorem k_X4_comes : zmtd mX4_comes = true := by decide +kernel
set_option maxRecDepth 100000 in
theorem w_X4_comes : lw_tbl[(zw mX4_comes).getD 0 0]? = some (zcw mX4_comes) := rfl
set_option maxRecDepth 100000 in
theorem e_X4_isTrue : (zi mX4_isTrue).all (zent mX4_isTrue) = true := by decide +kernel
set_option maxRecDepth 100000 in
theorem k_X4_isTrue : zmtd mX4_isTrue = true := by decide +kernel
set_option maxRecDepth 100000 in
theorem w_X4_isTrue : lw_tbl[(zw mX4_isTrue).getD 0 0]? = some (zcw mX4_isTrue) := rfl
set_option maxRecDepth 100000 in
theorem e_X4_different : (zi mX4_different).all (zent mX4_different) = true := by decide +kernel
set_option maxRecDepth 100000 in
theorem k_X4_different : zmtd mX4_different = true := by decide +kernel
set_option maxRecDepth 100000 in
theorem w_X4_different : lw_tbl[(zw mX4_different).getD 0 0]? = some (zcw mX4_different) := rfl
set_option maxRecDepth 100000 in
theorem e_X4_pealTold : (zi mX4_pealTold).all (zent mX4_pealTold) = true := by decide +kernel
set_option maxRecDepth 100000 in
theorem k_X4_pealTold : zmtd mX4_pealTold = true := by decide +kernel
set_option maxRecDepth 100000 in
theorem w_X4_pealTold : lw_tbl[(zw mX4_pealTold).getD 0 0]? = some (zcw mX4_pealTold) := rfl
set_option maxRecDepth 100000 in
theorem e_X4_told : (zi mX4_told).all (zent mX4_told) = true := by decide +kernel
set_option maxRecDepth 100000 in
theorem k_X4_told : zmtd mX4_told = true := by decide +kernel
set_option maxRecDepth 100000 in
theorem w_X4_told : lw_tbl[(zw mX4_told).getD 0 0]? = some (zcw mX4_told) := rfl
set_option maxRecDepth 100000 in
theorem e_X4_counted : (zi mX4_counted).all (zent mX4_counted) = true := by decide +kernel
set_option maxRecDepth 100000 in
theorem k_X4_counted : zmtd mX4_counted = true := by decide +kernel
set_option maxRecDepth 100000 in
theorem w_X4_counted : lw_tbl[(zw mX4_counted).getD 0 0]? = some (zcw mX4_counted) := rfl
set_option maxRecDepth 100000 in
theorem e_X4_count : (zi mX4_count).all (zent mX4_count) = true := by decide +kernel
set_option maxRecDepth 100000 in
theorem k_X4_count : zmtd mX4_count = true := by decide +kernel
set_option maxRecDepth 100000 in
theorem w_X4_count : lw_tbl[(zw mX4_count).getD 0 0]? = some (zcw mX4_count) := rfl
set_option maxRecDepth 100000 in
theorem e_X4_spreads : (zi mX4_spreads).all (zent mX4_spreads) = true := by decide +kernel
set_option maxRecDepth 100000 in
theorem k_X4_spreads : zmtd mX4_spreads = true := by decide +kernel
set_option maxRecDepth 100000 in
theorem w_X4_spreads : lw_tbl[(zw mX4_spreads).getD 0 0]? = some (zcw mX4_spreads) := rfl
set_option maxRecDepth 100000 in
theorem e_X4_steps : (zi mX4_steps).all (zent mX4_steps) = true := by decide +kernel
set_option maxRecDepth 100000 in
theorem k_X4_steps : zmtd mX4_steps = true := by decide +kernel
set_option maxRecDepth 100000 in
theorem w_X4_steps : lw_tbl[(zw mX4_steps).getD 0 0]? = some (zcw mX4_steps) := rfl
set_option maxRecDepth 100000 in
theorem e_X4_next : (zi mX4_next).all (zent mX4_next) = true := by decide +kernel
set_option maxRecDepth 100000 in
theorem k_X4_next : zmtd mX4_next = true := by decide +kernel
set_option maxRecDepth 100000 in
theorem w_X4_next : lw_tbl[(zw mX4_next).getD 0 0]? = some (zcw mX4_next) := rfl
set_option maxRecDepth 100000 in
theorem e_X4_reach : (zi mX4_reach).all (zent mX4_reach) = true := by decide +kernel
set_option maxRecDepth 100000 in
theorem k_X4_reach : zmtd mX4_reach = true := by decide +kernel
set_option maxRecDepth 100000 in
theorem w_X4_reach : lw_tbl[(zw mX4_reach).getD 0 0]? = some (zcw mX4_reach) := rfl
set_option maxRecDepth 100000 in
theorem e_X4_farthest : (zi mX4_farthest).all (zent mX4_farthest) = true := by decide +kernel
set_option maxRecDepth 100000 in
theorem k_X4_farthest : zmtd mX4_farthest = true := by decide +kernel
set_option maxRecDepth 100000 in
theorem w_X4_farthest : lw_tbl[(zw mX4_farthest).getD 0 0]? = some (zcw mX4_farthest) := rfl
set_option maxRecDepth 100000 in
theorem e_X4_mean : (zi mX4_mean).all (zent mX4_mean) = true := by decide +kernel
set_option maxRecDepth 100000 in
theorem k_X4_mean : zmtd mX4_mean = true := by decide +kernel
set_option maxRecDepth 100000 in
theorem w_X4_mean : lw_tbl[(zw mX4_mean).getD 0 0]? = some (zcw mX4_mean) := rfl
set_option maxRecDepth 100000 in
theorem e_X4_digest : (zi mX4_digest).all (zent mX4_digest) = true := by decide +kernel
set_option maxRecDepth 100000 in
theorem k_X4_digest : zmtd mX4_digest = true := by decide +kernel
set_option maxRecDepth 100000 in
theorem w_X4_digest : lw_tbl[(zw mX4_digest).getD 0 0]? = some (zcw mX4_digest) := rfl
set_option maxRecDepth 100000 in
theorem e_J7_fill_53178 : (zi mJ7_fill_53178).all (zent mJ7_fill_53178) = true := by decide +kernel
set_option maxRecDepth 100000 in
theorem k_J7_fill_53178 : zmtd mJ7_fill_53178 = true := by decide +kernel
set_option maxRecDepth 100000 in
theorem w_J7_fill_53178 : lw_tbl[(zw mJ7_fill_53178).getD 0 0]? = some (zcw mJ7_fill_53178) := rfl
set_option maxRecDepth 100000 in
theorem e_L_rule : (zi mL_rule).all (zent mL_rule) = true := by decide +kernel
set_option maxRecDepth 100000 in
theorem k_L_rule : zmtd mL_rule = true := by decide +kernel
set_option maxRecDepth 100000 in
theorem w_L_rule : lw_tbl[(zw mL_rule).getD 0 0]? = some (zcw mL_rule) := rfl
set_option maxRecDepth 100000 in
theorem e_L_goes : (zi mL_goes).all (zent mL_goes) = true := by decide +kernel
set_option maxRecDepth 100000 in
theorem k_L_goes : zmtd mL_goes = true := by decide +kernel
set_option maxRecDepth 100000 in
theorem w_L_goes : lw_tbl[(zw mL_goes).getD 0 0]? = some (zcw mL_goes) := rfl
set_option maxRecDepth 100000 in
theorem e_L_about : (zi mL_about).all (zent mL_about) = true := by decide +kernel
set_option maxRecDepth 100000 in
theorem k_L_about : zmtd mL_about = true := by decide +kernel
set_option maxRecDepth 100000 in
theorem w_L_about : lw_tbl[(zw mL_about).getD 0 0]? = some (zcw mL_about) := rfl
set_option maxRecDepth 100000 in
theorem e_L_swaps : (zi mL_swaps).all (zent mL_swaps) = true := by decide +kernel
set_option maxRecDepth 100000 in
theorem k_L_swaps : zmtd mL_swaps = true := by decide +kernel
set_option maxRecDepth 100000 in
theorem w_L_swaps : lw_tbl[(zw mL_swaps).getD 0 0]? = some (zcw mL_swaps) := rfl
set_option maxRecDepth 100000 in
theorem e_L_ring : (zi mL_ring).all (zent mL_ring) = true := by decide +kernel
set_option maxRecDepth 100000 in
theorem k_L_ring : zmtd mL_ring = true := by decide +kernel
set_option maxRecDepth 100000 in
theorem w_L_ring : lw_tbl[(zw mL_ring).getD 0 0]? = some (zcw mL_ring) := rfl
set_option maxRecDepth 100000 in
theorem e_L_undo : (zi mL_undo).all (zent mL_undo) = true := by decide +kernel
set_option maxRecDepth 100000 in
theorem k_L_undo : zmtd mL_undo = true := by decide +kernel
set_option maxRecDepth 100000 in
theorem w_L_undo : lw_tbl[(zw mL_undo).getD 0 0]? = some (zcw mL_undo) := rfl
set_option maxRecDepth 100000 in
theorem e_L_at : (zi mL_at).all (zent mL_at) = true := by decide +kernel
set_option maxRecDepth 100000 in
theorem k_L_at : zmtd mL_at = true := by decide +kernel
set_option maxRecDepth 100000 in
theorem w_L_at : lw_tbl[(zw mL_at).getD 0 0]? = some (zcw mL_at) := rfl
set_option maxRecDepth 100000 in
theorem e_L_find : (zi mL_find).all (zent mL_find) = true := by decide +kernel
set_option maxRecDepth 100000 in
theorem k_L_find : zmtd mL_find = true := by decide +kernel
set_option maxRecDepth 100000 in
theorem w_L_find : lw_tbl[(zw mL_find).getD 0 0]? = some (zcw mL_find) := rfl
set_option maxRecDepth 100000 in
theorem e_L_set : (zi mL_set).all (zent mL_set) = true := by decide +kernel
set_option maxRecDepth 100000 in
theorem k_L_set : zmtd mL_set = true := by decide +kernel
set_option maxRecDepth 100000 in
theorem w_L_set : lw_tbl[(zw mL_set).getD 0 0]? = some (zcw mL_set) := rfl
set_option maxRecDepth 100000 in
theorem e_L_peal : (zi mL_peal).all (zent mL_peal) = true := by decide +kernel
set_option maxRecDepth 100000 in
theorem k_L_peal : zmtd mL_peal = true := by decide +kernel
set_option maxRecDepth 100000 in
theorem w_L_peal : lw_tbl[(zw mL_peal).getD 0 0]? = some (zcw mL_peal) := rfl
set_option maxRecDepth 100000 in
theorem e_L_add : (zi mL_add).all (zent mL_add) = true := by decide +kernel
set_option maxRecDepth 100000 in
theorem k_L_add : zmtd mL_add = true := by decide +kernel
set_option maxRecDepth 100000 in
theorem w_L_add : lw_tbl[(zw mL_add).getD 0 0]? = some (zcw mL_add) := rfl
set_option maxRecDepth 100000 in
theorem e_L_play : (zi mL_play).all (zent mL_play) = true := by decide +kernel
set_option maxRecDepth 100000 in
theorem k_L_play : zmtd mL_play = true := by decide +kernel
set_option maxRecDepth 100000 in
theorem w_L_play : lw_tbl[(zw mL_play).getD 0 0]? = some (zcw mL_play) := rfl
set_option maxRecDepth 100000 in
theorem e_L_told : (zi mL_told).all (zent mL_told) = true := by decide +kernel
set_option maxRecDepth 100000 in
theorem k_L_told : zmtd mL_told = true := by decide +kernel
set_option maxRecDepth 100000 in
theorem w_L_told : lw_tbl[(zw mL_told).getD 0 0]? = some (zcw mL_told) := rfl
set_option maxRecDepth 100000 in
theorem e_L_count : (zi mL_count).all (zent mL_count) = true := by decide +kernel
set_option maxRecDepth 100000 in
theorem k_L_count : zmtd mL_count = true := by decide +kernel
set_option maxRecDepth 100000 in
theorem w_L_count : lw_tbl[(zw mL_count).getD 0 0]? = some (zcw mL_count) := rfl
set_option maxRecDepth 100000 in
theorem e_L_steps : (zi mL_steps).all (zent mL_steps) = true := by decide +kernel
set_option maxRecDepth 100000 in
theorem k_L_steps : zmtd mL_steps = true := by decide +kernel
set_option maxRecDepth 100000 in
theorem w_L_steps : lw_tbl[(zw mL_steps).getD 0 0]? = some (zcw mL_steps) := rfl
set_option maxRecDepth 100000 in
theorem e_L_next : (zi mL_next).all (zent mL_next) = true := by decide +kernel
set_option maxRecDepth 100000 in
theorem k_L_next : zmtd mL_next = true := by decide +kernel
set_option maxRecDepth 100000 in
theorem w_L_next : lw_tbl[(zw mL_next).getD 0 0]? = some (zcw mL_next) := rfl
