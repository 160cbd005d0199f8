set_option maxRecDepth 100000 in
theorem e_X0_init : (zi mX0_init).all (zent mX0_init) = true := by decide +kernel
set_option maxRecDepth 100000 in
theorem k_X0_init : zmtd mX0_init = true := by decide +kernel
set_option maxRecDepth 100000 in
theorem w_X0_init : lw_tbl[(zw mX0_init).getD 0 0]? = some (zcw mX0_init) := rfl
set_option maxRecDepth 100000 in
theorem e_X0_toRounds : (zi mX0_toRounds).all (zent mX0_toRounds) = true := by decide +kernel
set_option maxRecDepth 100000 in
theorem k_X0_toRounds : zmtd mX0_toRounds = true := by decide +kernel
set_option maxRecDepth 100000 in
theorem w_X0_toRounds : lw_tbl[(zw mX0_toRounds).getD 0 0]? = some (zcw mX0_toRounds) := rfl
set_option maxRecDepth 100000 in
theorem e_X0_read : (zi mX0_read).all (zent mX0_read) = true := by decide +kernel
set_option maxRecDepth 100000 in
theorem k_X0_read : zmtd mX0_read = true := by decide +kernel
set_option maxRecDepth 100000 in
theorem w_X0_read : lw_tbl[(zw mX0_read).getD 0 0]? = some (zcw mX0_read) := rfl
set_option maxRecDepth 100000 in
theorem e_X0_change : (zi mX0_change).all (zent mX0_change) = true := by decide +kernel
set_option maxRecDepth 100000 in
theorem k_X0_change : zmtd mX0_change = true := by decide +kernel
set_option maxRecDepth 100000 in
theorem w_X0_change : lw_tbl[(zw mX0_change).getD 0 0]? = some (zcw mX0_change) := rfl
set_option maxRecDepth 100000 in
theorem e_X0_changeBack : (zi mX0_changeBack).all (zent mX0_changeBack) = true := by decide +kernel
set_option maxRecDepth 100000 in
theorem k_X0_changeBack : zmtd mX0_changeBack = true := by decide +kernel
set_option maxRecDepth 100000 in
theorem w_X0_changeBack : lw_tbl[(zw mX0_changeBack).getD 0 0]? = some (zcw mX0_changeBack) := rfl
set_option maxRecDepth 100000 in
theorem e_X0_placeOf : (zi mX0_placeOf).all (zent mX0_placeOf) = true := by decide +kernel
set_option maxRecDepth 100000 in
theorem k_X0_placeOf : zmtd mX0_placeOf = true := by decide +kernel
set_option maxRecDepth 100000 in
theorem w_X0_placeOf : lw_tbl[(zw mX0_placeOf).getD 0 0]? = some (zcw mX0_placeOf) := rfl
set_option maxRecDepth 100000 in
theorem e_X0_code : (zi mX0_code).all (zent mX0_code) = true := by decide +kernel
set_option maxRecDepth 100000 in
theorem k_X0_code : zmtd mX0_code = true := by decide +kernel
set_option maxRecDepth 100000 in
theorem w_X0_code : lw_tbl[(zw mX0_code).getD 0 0]? = some (zcw mX0_code) := rfl
set_option maxRecDepth 100000 in
theorem e_X0_rank : (zi mX0_rank).all (zent mX0_rank) = true := by decide +kernel
set_option maxRecDepth 100000 in
theorem k_X0_rank : zmtd mX0_rank = true := by decide +kernel
set_option maxRecDepth 100000 in
theorem w_X0_rank : lw_tbl[(zw mX0_rank).getD 0 0]? = some (zcw mX0_rank) := rfl
set_option maxRecDepth 100000 in
theorem e_X1_init : (zi mX1_init).all (zent mX1_init) = true := by decide +kernel
set_option maxRecDepth 100000 in
theorem k_X1_init : zmtd mX1_init = true := by decide +kernel
set_option maxRecDepth 100000 in
theorem w_X1_init : lw_tbl[(zw mX1_init).getD 0 0]? = some (zcw mX1_init) := rfl
set_option maxRecDepth 100000 in
theorem e_X1_clear : (zi mX1_clear).all (zent mX1_clear) = true := by decide +kernel
set_option maxRecDepth 100000 in
theorem k_X1_clear : zmtd mX1_clear = true := by decide +kernel
set_option maxRecDepth 100000 in
theorem w_X1_clear : lw_tbl[(zw mX1_clear).getD 0 0]? = some (zcw mX1_clear) := rfl
set_option maxRecDepth 100000 in
theorem e_X1_mark : (zi mX1_mark).all (zent mX1_mark) = true := by decide +kernel
set_option maxRecDepth 100000 in
theorem k_X1_mark : zmtd mX1_mark = true := by decide +kernel
set_option maxRecDepth 100000 in
theorem w_X1_mark : lw_tbl[(zw mX1_mark).getD 0 0]? = some (zcw mX1_mark) := rfl
set_option maxRecDepth 100000 in
theorem e_X2_init : (zi mX2_init).all (zent mX2_init) = true := by decide +kernel
set_option maxRecDepth 100000 in
theorem k_X2_init : zmtd mX2_init = true := by decide +kernel
set_option maxRecDepth 100000 in
theorem w_X2_init : lw_tbl[(zw mX2_init).getD 0 0]? = some (zcw mX2_init) := rfl
set_option maxRecDepth 100000 in
theorem e_X2_explore : (zi mX2_explore).all (zent mX2_explore) = true := by decide +kernel
set_option maxRecDepth 100000 in
theorem k_X2_explore : zmtd mX2_explore = true := by decide +kernel
set_option maxRecDepth 100000 in
theorem w_X2_explore : lw_tbl[(zw mX2_explore).getD 0 0]? = some (zcw mX2_explore) := rfl
set_option maxRecDepth 100000 in
theorem e_X2_begin : (zi mX2_begin).all (zent mX2_begin) = true := by decide +kernel
set_option maxRecDepth 100000 in
theorem k_X2_begin : zmtd mX2_begin = true := by decide +kernel
set_option maxRecDepth 100000 in
theorem w_X2_begin : lw_tbl[(zw mX2_begin).getD 0 0]? = some (zcw mX2_begin) := rfl
set_option maxRecDepth 100000 in
theorem e_X2_arrive : (zi mX2_arrive).all (zent mX2_arrive) = true := by decide +kernel
set_option maxRecDepth 100000 in
theorem k_X2_arrive : zmtd mX2_arrive = true := by decide +kernel
set_option maxRecDepth 100000 in
theorem w_X2_arrive : lw_tbl[(zw mX2_arrive).getD 0 0]? = some (zcw mX2_arrive) := rfl
set_option maxRecDepth 100000 in
theorem e_X3_init : (zi mX3_init).all (zent mX3_init) = true := by decide +kernel
set_option maxRecDepth 100000 in
theorem k_X3_init : zmtd mX3_init = true := by decide +kernel
set_option maxRecDepth 100000 in
theorem w_X3_init : lw_tbl[(zw mX3_init).getD 0 0]? = some (zcw mX3_init) := rfl
set_option maxRecDepth 100000 in
theorem e_X3_rule : (zi mX3_rule).all (zent mX3_rule) = true := by decide +kernel
set_option maxRecDepth 100000 in
theorem k_X3_rule : zmtd mX3_rule = true := by decide +kernel
set_option maxRecDepth 100000 in
theorem w_X3_rule : lw_tbl[(zw mX3_rule).getD 0 0]? = some (zcw mX3_rule) := rfl
set_option maxRecDepth 100000 in
theorem e_X3_about : (zi mX3_about).all (zent mX3_about) = true := by decide +kernel
set_option maxRecDepth 100000 in
theorem k_X3_about : zmtd mX3_about = true := by decide +kernel
set_option maxRecDepth 100000 in
theorem w_X3_about : lw_tbl[(zw mX3_about).getD 0 0]? = some (zcw mX3_about) := rfl
set_option maxRecDepth 100000 in
theorem e_X3_swaps : (zi mX3_swaps).all (zent mX3_swaps) = true := by decide +kernel
set_option maxRecDepth 100000 in
theorem k_X3_swaps : zmtd mX3_swaps = true := by decide +kernel
set_option maxRecDepth 100000 in
theorem w_X3_swaps : lw_tbl[(zw mX3_swaps).getD 0 0]? = some (zcw mX3_swaps) := rfl
set_option maxRecDepth 100000 in
theorem e_X3_ring : (zi mX3_ring).all (zent mX3_ring) = true := by decide +kernel
set_option maxRecDepth 100000 in
theorem k_X3_ring : zmtd mX3_ring = true := by decide +kernel
set_option maxRecDepth 100000 in
theorem w_X3_ring : lw_tbl[(zw mX3_ring).getD 0 0]? = some (zcw mX3_ring) := rfl
set_option maxRecDepth 100000 in
theorem e_X3_undo : (zi mX3_undo).all (zent mX3_undo) = true := by decide +kernel
set_option maxRecDepth 100000 in
theorem k_X3_undo : zmtd mX3_undo = true := by decide +kernel
set_option maxRecDepth 100000 in
theorem w_X3_undo : lw_tbl[(zw mX3_undo).getD 0 0]? = some (zcw mX3_undo) := rfl
set_option maxRecDepth 100000 in
theorem e_X3_at : (zi mX3_at).all (zent mX3_at) = true := by decide +kernel
set_option maxRecDepth 100000 in
theorem k_X3_at : zmtd mX3_at = true := by decide +kernel
set_option maxRecDepth 100000 in
theorem w_X3_at : lw_tbl[(zw mX3_at).getD 0 0]? = some (zcw mX3_at) := rfl
set_option maxRecDepth 100000 in
theorem e_X3_find : (zi mX3_find).all (zent mX3_find) = true := by decide +kernel
set_option maxRecDepth 100000 in
theorem k_X3_find : zmtd mX3_find = true := by decide +kernel
set_option maxRecDepth 100000 in
theorem w_X3_find : lw_tbl[(zw mX3_find).getD 0 0]? = some (zcw mX3_find) := rfl
set_option maxRecDepth 100000 in
theorem e_X3_set : (zi mX3_set).all (zent mX3_set) = true := by decide +kernel
set_option maxRecDepth 100000 in
theorem k_X3_set : zmtd mX3_set = true := by decide +kernel
set_option maxRecDepth 100000 in
theorem w_X3_set : lw_tbl[(zw mX3_set).getD 0 0]? = some (zcw mX3_set) := rfl
set_option maxRecDepth 100000 in
theorem e_X3_peal : (zi mX3_peal).all (zent mX3_peal) = true := by decide +kernel
set_option maxRecDepth 100000 in
theorem k_X3_peal : zmtd mX3_peal = true := by decide +kernel
set_option maxRecDepth 100000 in
theorem w_X3_peal : lw_tbl[(zw mX3_peal).getD 0 0]? = some (zcw mX3_peal) := rfl
set_option maxRecDepth 100000 in
theorem e_X3_add : (zi mX3_add).all (zent mX3_add) = true := by decide +kernel
set_option maxRecDepth 100000 in
theorem k_X3_add : zmtd mX3_add = true := by decide +kernel
set_option maxRecDepth 100000 in
theorem w_X3_add : lw_tbl[(zw mX3_add).getD 0 0]? = some (zcw mX3_add) := rfl
set_option maxRecDepth 100000 in
theorem e_X3_play : (zi mX3_play).all (zent mX3_play) = true := by decide +kernel
set_option maxRecDepth 100000 in
theorem k_X3_play : zmtd mX3_play = true := by decide +kernel
set_option maxRecDepth 100000 in
theorem w_X3_play : lw_tbl[(zw mX3_play).getD 0 0]? = some (zcw mX3_play) := rfl
set_option maxRecDepth 100000 in
theorem e_X3_told : (zi mX3_told).all (zent mX3_told) = true := by decide +kernel
set_option maxRecDepth 100000 in
theorem k_X3_told : zmtd mX3_told = true := by decide +kernel
set_option maxRecDepth 100000 in
theorem w_X3_told : lw_tbl[(zw mX3_told).getD 0 0]? = some (zcw mX3_told) := rfl
set_option maxRecDepth 100000 in
theorem e_X3_count : (zi mX3_count).all (zent mX3_count) = true := by decide +kernel
set_option maxRecDepth 100000 in
theorem k_X3_count : zmtd mX3_count = true := by decide +kernel
set_option maxRecDepth 100000 in
theorem w_X3_count : lw_tbl[(zw mX3_count).getD 0 0]? = some (zcw mX3_count) := rfl
set_option maxRecDepth 100000 in
theorem e_X3_steps : (zi mX3_steps).all (zent mX3_steps) = true := by decide +kernel
set_option maxRecDepth 100000 in
theorem k_X3_steps : zmtd mX3_steps = true := by decide +kernel
set_option maxRecDepth 100000 in
theorem w_X3_steps : lw_tbl[(zw mX3_steps).getD 0 0]? = some (zcw mX3_steps) := rfl
set_option maxRecDepth 100000 in
theorem e_X3_next : (zi mX3_next).all (zent mX3_next) = true := by decide +kernel
set_option maxRecDepth 100000 in
theorem k_X3_next : zmtd mX3_next = true := by decide +kernel
set_option maxRecDepth 100000 in
theorem w_X3_next : lw_tbl[(zw mX3_next).getD 0 0]? = some (zcw mX3_next) := rfl
set_option maxRecDepth 100000 in
theorem e_X3_reach : (zi mX3_reach).all (zent mX3_reach) = true := by decide +kernel
set_option maxRecDepth 100000 in
theorem k_X3_reach : zmtd mX3_reach = true := by decide +kernel
set_option maxRecDepth 100000 in
theorem w_X3_reach : lw_tbl[(zw mX3_reach).getD 0 0]? = some (zcw mX3_reach) := rfl
set_option maxRecDepth 100000 in
theorem e_X3_farthest : (zi mX3_farthest).all (zent mX3_farthest) = true := by decide +kernel
set_option maxRecDepth 100000 in
theorem k_X3_farthest : zmtd mX3_farthest = true := by decide +kernel
set_option maxRecDepth 100000 in
theorem w_X3_farthest : lw_tbl[(zw mX3_farthest).getD 0 0]? = some (zcw mX3_farthest) := rfl
set_option maxRecDepth 100000 in
theorem e_X3_mean : (zi mX3_mean).all (zent mX3_mean) = true := by decide +kernel
set_option maxRecDepth 100000 in
theorem k_X3_mean : zmtd mX3_mean = true := by decide +kernel
set_option maxRecDepth 100000 in
theorem w_X3_mean : lw_tbl[(zw mX3_mean).getD 0 0]? = some (zcw mX3_mean) := rfl
set_option maxRecDepth 100000 in
theorem e_X3_digest : (zi mX3_digest).all (zent mX3_digest) = true := by decide +kernel
set_option maxRecDepth 100000 in
theorem k_X3_digest : zmtd mX3_digest = true := by decide +kernel
set_option maxRecDepth 100000 in
theorem w_X3_digest : lw_tbl[(zw mX3_digest).getD 0 0]? = some (zcw mX3_digest) := rfl
set_option maxRecDepth 100000 in
theorem e_X3_isPlace : (zi mX3_isPlace).all (zent mX3_isPlace) = true := by decide +kernel
set_option maxRecDepth 100000 in
theorem k_X3_isPlace : zmtd mX3_isPlace = true := by decide +kernel
set_option maxRecDepth 100000 in
theorem w_X3_isPlace : lw_tbl[(zw mX3_isPlace).getD 0 0]? = some (zcw mX3_isPlace) := rfl
set_option maxRecDepth 100000 in
theorem e_X3_requirePlace : (zi mX3_requirePlace).all (zent mX3_requirePlace) = true := by decide +kernel
set_option maxRecDepth 100000 in
theorem k_X3_requirePlace : zmtd mX3_requirePlace = true := by decide +kernel
set_option maxRecDepth 100000 in
theorem w_X3_requirePlace : lw_tbl[(zw mX3_requirePlace).getD 0 0]? = some (zcw mX3_requirePlace) := rfl
set_option maxRecDepth 100000 in
theorem e_X3_requireRule : (zi mX3_requireRule).all (zent mX3_requireRule) = true := by decide +kernel
set_option maxRecDepth 100000 in
theorem k_X3_requireRule : zmtd mX3_requireRule = true := by decide +kernel
set_option maxRecDepth 100000 in
theorem w_X3_requireRule : lw_tbl[(zw mX3_requireRule).getD 0 0]? = some (zcw mX3_requireRule) := rfl
set_option maxRecDepth 100000 in
theorem e_X3_requirePeal : (zi mX3_requirePeal).all (zent mX3_requirePeal) = true := by decide +kernel
set_option maxRecDepth 100000 in
theorem k_X3_requirePeal : zmtd mX3_requirePeal = true := by decide +kernel
set_option maxRecDepth 100000 in
theorem w_X3_requirePeal : lw_tbl[(zw mX3_requirePeal).getD 0 0]? = some (zcw mX3_requirePeal) := rfl
set_option maxRecDepth 100000 in
theorem e_X3_requireRowCode : (zi mX3_requireRowCode).all (zent mX3_requireRowCode) = true := by decide +kernel
set_option maxRecDepth 100000 in
theorem k_X3_requireRowCode : zmtd mX3_requireRowCode = true := by decide +kernel
set_option maxRecDepth 100000 in
theorem w_X3_requireRowCode : lw_tbl[(zw mX3_requireRowCode).getD 0 0]? = some (zcw mX3_requireRowCode) := rfl
set_option maxRecDepth 100000 in
theorem e_X3_isRowCode : (zi mX3_isRowCode).all (zent mX3_isRowCode) = true := by decide +kernel
set_option maxRecDepth 100000 in
theorem k_X3_isRowCode : zmtd mX3_isRowCode = true := by decide +kernel
set_option maxRecDepth 100000 in
theorem w_X3_isRowCode : lw_tbl[(zw mX3_isRowCode).getD 0 0]? = some (zcw mX3_isRowCode) := rfl
set_option maxRecDepth 100000 in
theorem e_X3_oddness : (zi mX3_oddness).all (zent mX3_oddness) = true := by decide +kernel
set_option maxRecDepth 100000 in
theorem k_X3_oddness : zmtd mX3_oddness = true := by decide +kernel
set_option maxRecDepth 100000 in
theorem w_X3_oddness : lw_tbl[(zw mX3_oddness).getD 0 0]? = some (zcw mX3_oddness) := rfl
set_option maxRecDepth 100000 in
theorem e_X3_factOfRule : (zi mX3_factOfRule).all (zent mX3_factOfRule) = true := by decide +kernel
set_option maxRecDepth 100000 in
theorem k_X3_factOfRule : zmtd mX3_factOfRule = true := by decide +kernel
set_option maxRecDepth 100000 in
theorem w_X3_factOfRule : lw_tbl[(zw mX3_factOfRule).getD 0 0]? = some (zcw mX3_factOfRule) := rfl
set_option maxRecDepth 100000 in
theorem e_X3_orderOfRule : (zi mX3_orderOfRule).all (zent mX3_orderOfRule) = true := by decide +kernel
set_option maxRecDepth 100000 in
theorem k_X3_orderOfRule : zmtd mX3_orderOfRule = true := by decide +kernel
set_option maxRecDepth 100000 in
theorem w_X3_orderOfRule : lw_tbl[(zw mX3_orderOfRule).getD 0 0]? = some (zcw mX3_orderOfRule) := rfl
set_option maxRecDepth 100000 in
theorem e_X3_placesLeft : (zi mX3_placesLeft).all (zent mX3_placesLeft) = true := by decide +kernel
set_option maxRecDepth 100000 in
theorem k_X3_placesLeft : zmtd mX3_placesLeft = true := by decide +kernel
set_option maxRecDepth 100000 in
theorem w_X3_placesLeft : lw_tbl[(zw mX3_placesLeft).getD 0 0]? = some (zcw mX3_placesLeft) := rfl
set_option maxRecDepth 100000 in
theorem e_X3_groups : (zi mX3_groups).all (zent mX3_groups) = true := by decide +kernel
set_option maxRecDepth 100000 in
theorem k_X3_groups : zmtd mX3_groups = true := by decide +kernel
set_option maxRecDepth 100000 in
theorem w_X3_groups : lw_tbl[(zw mX3_groups).getD 0 0]? = some (zcw mX3_groups) := rfl
set_option maxRecDepth 100000 in
theorem e_X3_undoer : (zi mX3_undoer).all (zent mX3_undoer) = true := by decide +kernel
set_option maxRecDepth 100000 in
theorem k_X3_undoer : zmtd mX3_undoer = true := by decide +kernel
set_option maxRecDepth 100000 in
theorem w_X3_undoer : lw_tbl[(zw mX3_undoer).getD 0 0]? = some (zcw mX3_undoer) := rfl
set_option maxRecDepth 100000 in
theorem e_X3_undoes : (zi mX3_undoes).all (zent mX3_undoes) = true := by decide +kernel
set_option maxRecDepth 100000 in
theorem k_X3_undoes : zmtd mX3_undoes = true := by decide +kernel
set_option maxRecDepth 100000 in
theorem w_X3_undoes : lw_tbl[(zw mX3_undoes).getD 0 0]? = some (zcw mX3_undoes) := rfl
set_option maxRecDepth 100000 in
theorem e_X3_ringPealOn : (zi mX3_ringPealOn).all (zent mX3_ringPealOn) = true := by decide +kernel
set_option maxRecDepth 100000 in
theorem k_X3_ringPealOn : zmtd mX3_ringPealOn = true := by decide +kernel
set_option maxRecDepth 100000 in
theorem w_X3_ringPealOn : lw_tbl[(zw mX3_ringPealOn).getD 0 0]? = some (zcw mX3_ringPealOn) := rfl
set_option maxRecDepth 100000 in
theorem e_X3_factOfPeal : (zi mX3_factOfPeal).all (zent mX3_factOfPeal) = true := by decide +kernel
set_option maxRecDepth 100000 in
theorem k_X3_factOfPeal : zmtd mX3_factOfPeal = true := by decide +kernel
set_option maxRecDepth 100000 in
theorem w_X3_factOfPeal : lw_tbl[(zw mX3_factOfPeal).getD 0 0]? = some (zcw mX3_factOfPeal) := rfl
set_option maxRecDepth 100000 in
theorem e_X3_isTrue : (zi mX3_isTrue).all (zent mX3_isTrue) = true := by decide +kernel
set_option maxRecDepth 100000 in
theorem k_X3_isTrue : zmtd mX3_isTrue = true := by decide +kernel
set_option maxRecDepth 100000 in
theorem w_X3_isTrue : lw_tbl[(zw mX3_isTrue).getD 0 0]? = some (zcw mX3_isTrue) := rfl
set_option maxRecDepth 100000 in
theorem e_X3_orderOfPeal : (zi mX3_orderOfPeal).all (zent mX3_orderOfPeal) = true := by decide +kernel
set_option maxRecDepth 100000 in
theorem k_X3_orderOfPeal : zmtd mX3_orderOfPeal = true := by decide +kernel
set_option maxRecDepth 100000 in
theorem w_X3_orderOfPeal : lw_tbl[(zw mX3_orderOfPeal).getD 0 0]? = some (zcw mX3_orderOfPeal) := rfl
set_option maxRecDepth 100000 in
theorem e_X3_differentRows : (zi mX3_differentRows).all (zent mX3_differentRows) = true := by decide +kernel
set_option maxRecDepth 100000 in
theorem k_X3_differentRows : zmtd mX3_differentRows = true := by decide +kernel
set_option maxRecDepth 100000 in
theorem w_X3_differentRows : lw_tbl[(zw mX3_differentRows).getD 0 0]? = some (zcw mX3_differentRows) := rfl
set_option maxRecDepth 100000 in
theorem e_X3_countOf : (zi mX3_countOf).all (zent mX3_countOf) = true := by decide +kernel
set_option maxRecDepth 100000 in
theorem k_X3_countOf : zmtd mX3_countOf = true := by decide +kernel
set_option maxRecDepth 100000 in
theorem w_X3_countOf : lw_tbl[(zw mX3_countOf).getD 0 0]? = some (zcw mX3_countOf) := rfl
set_option maxRecDepth 100000 in
theorem e_X3_fitWays : (zi mX3_fitWays).all (zent mX3_fitWays) = true := by decide +kernel
set_option maxRecDepth 100000 in
theorem k_X3_fitWays : zmtd mX3_fitWays = true := by decide +kernel
set_option maxRecDepth 100000 in
theorem w_X3_fitWays : lw_tbl[(zw mX3_fitWays).getD 0 0]? = some (zcw mX3_fitWays) := rfl
set_option maxRecDepth 100000 in
theorem e_X3_rankSeenFromTheRow : (zi mX3_rankSeenFromTheRow).all (zent mX3_rankSeenFromTheRow) = true := by decide +kernel
set_option maxRecDepth 100000 in
theorem k_X3_rankSeenFromTheRow : zmtd mX3_rankSeenFromTheRow = true := by decide +kernel
set_option maxRecDepth 100000 in
theorem w_X3_rankSeenFromTheRow : lw_tbl[(zw mX3_rankSeenFromTheRow).getD 0 0]? = some (zcw mX3_rankSeenFromTheRow) := rfl
set_option maxRecDepth 100000 in
theorem e_X3_digestWithRule : (zi mX3_digestWithRule).all (zent mX3_digestWithRule) = true := by decide +kernel
set_option maxRecDepth 100000 in
theorem k_X3_digestWithRule : zmtd mX3_digestWithRule = true := by decide +kernel
set_option maxRecDepth 100000 in
theorem w_X3_digestWithRule : lw_tbl[(zw mX3_digestWithRule).getD 0 0]? = some (zcw mX3_digestWithRule) := rfl
set_option maxRecDepth 100000 in
theorem e_X3_digestWithPeal : (zi mX3_digestWithPeal).all (zent mX3_digestWithPeal) = true := by decide +kernel
set_option maxRecDepth 100000 in
theorem k_X3_digestWithPeal : zmtd mX3_digestWithPeal = true := by decide +kernel
set_option maxRecDepth 100000 in
theorem w_X3_digestWithPeal : lw_tbl[(zw mX3_digestWithPeal).getD 0 0]? = some (zcw mX3_digestWithPeal) := rfl
set_option maxRecDepth 100000 in
theorem e_J7_fill_53178 : (zi mJ7_fill_53178).all (zent mJ7_fill_53178) = true := by decide +kernel
set_option maxRecDepth 100000 in
theorem k_J7_fill_53178 : zmtd mJ7_fill_53178 = true := by decide +kernel
set_option maxRecDepth 100000 in
theorem w_J7_fill_53178 : lw_tbl[(zw mJ7_fill_53178).getD 0 0]? = some (zcw mJ7_fill_53178) := rfl
set_option maxRecDepth 100000 in
theorem e_L_below : (zi mL_below).all (zent mL_below) = true := by decide +kernel
set_option maxRecDepth 100000 in
theorem k_L_below : zmtd mL_below = true := by decide +kernel
set_option maxRecDepth 100000 in
theorem w_L_below : lw_tbl[(zw mL_below).getD 0 0]? = some (zcw mL_below) := rfl
set_option maxRecDepth 100000 in
theorem e_L_cell : (zi mL_cell).all (zent mL_cell) = true := by decide +kernel
set_option maxRecDepth 100000 in
theorem k_L_cell : zmtd mL_cell = true := by decide +kernel
set_option maxRecDepth 100000 in
theorem w_L_cell : lw_tbl[(zw mL_cell).getD 0 0]? = some (zcw mL_cell) := rfl
set_option maxRecDepth 100000 in
theorem e_L_order : (zi mL_order).all (zent mL_order) = true := by decide +kernel
set_option maxRecDepth 100000 in
theorem k_L_order : zmtd mL_order = true := by decide +kernel
set_option maxRecDepth 100000 in
theorem w_L_order : lw_tbl[(zw mL_order).getD 0 0]? = some (zcw mL_order) := rfl
set_option maxRecDepth 100000 in
theorem e_L_rule : (zi mL_rule).all (zent mL_rule) = true := by decide +kernel
set_option maxRecDepth 100000 in
theorem k_L_rule : zmtd mL_rule = true := by decide +kernel
set_option maxRecDepth 100000 in
theorem w_L_rule : lw_tbl[(zw mL_rule).getD 0 0]? = some (zcw mL_rule) := rfl
set_option maxRecDepth 100000 in
theorem e_L_code : (zi mL_code).all (zent mL_code) = true := by decide +kernel
set_option maxRecDepth 100000 in
theorem k_L_code : zmtd mL_code = true := by decide +kernel
set_option maxRecDepth 100000 in
theorem w_L_code : lw_tbl[(zw mL_code).getD 0 0]? = some (zcw mL_code) := rfl
set_option maxRecDepth 100000 in
theorem e_L_rules : (zi mL_rules).all (zent mL_rules) = true := by decide +kernel
set_option maxRecDepth 100000 in
theorem k_L_rules : zmtd mL_rules = true := by decide +kernel
set_option maxRecDepth 100000 in
theorem w_L_rules : lw_tbl[(zw mL_rules).getD 0 0]? = some (zcw mL_rules) := rfl
