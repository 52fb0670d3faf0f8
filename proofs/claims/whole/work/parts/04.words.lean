set_option maxRecDepth 20000 in
theorem g_BlockDesk_writeBlocks_BlockDesk_losePower : GoodIn w_BlockDesk_writeBlocks (wsV R_BlockDesk 70 R_BlockDesk y_BlockDesk_losePower w_BlockDesk_losePower) := goodIn_p _ [7] rfl (by decide +kernel)
set_option maxRecDepth 20000 in
theorem g_BlockDesk_beginJournalAnew_BlockDesk_usedPlaces : GoodIn w_BlockDesk_beginJournalAnew (wsV R_BlockDesk 44 R_BlockDesk y_BlockDesk_usedPlaces w_BlockDesk_usedPlaces) := goodIn_p _ [6] rfl (by decide +kernel)
set_option maxRecDepth 20000 in
theorem g_BlockDesk_beginJournalAnew_BlockDesk_blocksFor : GoodIn w_BlockDesk_beginJournalAnew (va_wsS R_BlockDesk 60 y_BlockDesk_blocksFor w_BlockDesk_blocksFor) := goodIn_p _ [11] rfl (by decide +kernel)
set_option maxRecDepth 20000 in
theorem g_BlockDesk_cut_BlockDesk_losePower : GoodIn w_BlockDesk_cut (wsV R_BlockDesk 70 R_BlockDesk y_BlockDesk_losePower w_BlockDesk_losePower) := goodIn_p _ [6] rfl (by decide +kernel)
set_option maxRecDepth 20000 in
theorem g_BlockDesk_start_BlockDesk_writeBlocks : GoodIn w_BlockDesk_start (wsV R_BlockDesk 48 R_BlockDesk y_BlockDesk_writeBlocks w_BlockDesk_writeBlocks) := goodIn_p _ [6, 12] rfl (by decide +kernel)
set_option maxRecDepth 20000 in
theorem g_BlockDesk_byteOf_BlockDesk_size : GoodIn w_BlockDesk_byteOf (wsV R_BlockDesk 76 R_BlockDesk y_BlockDesk_size w_BlockDesk_size) := goodIn_p _ [5] rfl (by decide +kernel)
set_option maxRecDepth 20000 in
theorem g_BlockDesk_state_BlockDesk_usedPlaces : GoodIn w_BlockDesk_state (wsV R_BlockDesk 44 R_BlockDesk y_BlockDesk_usedPlaces w_BlockDesk_usedPlaces) := goodIn_p _ [9] rfl (by decide +kernel)
set_option maxRecDepth 20000 in
theorem g_BlockDesk_put_BlockDesk_handTakes : GoodIn w_BlockDesk_put (wsV R_BlockDesk 31 R_BlockDesk y_BlockDesk_handTakes w_BlockDesk_handTakes) := goodIn_p _ [5] rfl (by decide +kernel)
set_option maxRecDepth 20000 in
theorem g_Arrays_fill_Arrays_rangeCheck : GoodIn w_Arrays_fill (va_wsS R_Arrays 13 y_Arrays_rangeCheck w_Arrays_rangeCheck) := goodIn_p _ [4] rfl (by decide +kernel)
set_option maxRecDepth 20000 in
theorem g_BlockDesk_fill_BlockDesk_handTakes : GoodIn w_BlockDesk_fill (wsV R_BlockDesk 31 R_BlockDesk y_BlockDesk_handTakes w_BlockDesk_handTakes) := goodIn_p _ [5] rfl (by decide +kernel)
set_option maxRecDepth 20000 in
theorem g_BlockDesk_fill_Arrays_fill : GoodIn w_BlockDesk_fill (va_wsS R_BlockDesk 38 y_Arrays_fill w_Arrays_fill) := goodIn_p _ [12, 15] rfl (by decide +kernel)
set_option maxRecDepth 20000 in
theorem g_BlockDesk_record_BlockDesk_usedPlaces : GoodIn w_BlockDesk_record (wsV R_BlockDesk 44 R_BlockDesk y_BlockDesk_usedPlaces w_BlockDesk_usedPlaces) := goodIn_p _ [6] rfl (by decide +kernel)
set_option maxRecDepth 20000 in
theorem g_BlockDesk_record_BlockDesk_writeBlocks : GoodIn w_BlockDesk_record (wsV R_BlockDesk 48 R_BlockDesk y_BlockDesk_writeBlocks w_BlockDesk_writeBlocks) := goodIn_p _ [14, 20] rfl (by decide +kernel)
set_option maxRecDepth 20000 in
theorem g_BlockDesk_snapshot_BlockDesk_blocksFor : GoodIn w_BlockDesk_snapshot (va_wsS R_BlockDesk 60 y_BlockDesk_blocksFor w_BlockDesk_blocksFor) := goodIn_p _ [6] rfl (by decide +kernel)
set_option maxRecDepth 20000 in
theorem g_BlockDesk_snapshot_BlockDesk_writeBlocks : GoodIn w_BlockDesk_snapshot (wsV R_BlockDesk 48 R_BlockDesk y_BlockDesk_writeBlocks w_BlockDesk_writeBlocks) := goodIn_p _ [10, 16] rfl (by decide +kernel)
set_option maxRecDepth 20000 in
theorem g_BlockDesk_snapshot_BlockDesk_takeHandAsSnapshot : GoodIn w_BlockDesk_snapshot (wsV R_BlockDesk 64 R_BlockDesk y_BlockDesk_takeHandAsSnapshot w_BlockDesk_takeHandAsSnapshot) := goodIn_p _ [20] rfl (by decide +kernel)
set_option maxRecDepth 20000 in
theorem g_BlockDesk_snapshot_BlockDesk_beginJournalAnew : GoodIn w_BlockDesk_snapshot (wsV R_BlockDesk 67 R_BlockDesk y_BlockDesk_beginJournalAnew w_BlockDesk_beginJournalAnew) := goodIn_p _ [27, 32, 6] rfl (by decide +kernel)
set_option maxRecDepth 20000 in
theorem g_BlockDeskModel_start_BlockDeskModel_write : GoodIn w_BlockDeskModel_start (wsV R_BlockDeskModel 49 R_BlockDeskModel y_BlockDeskModel_write w_BlockDeskModel_write) := goodIn_p _ [6] rfl (by decide +kernel)
set_option maxRecDepth 20000 in
theorem g_BlockDeskModel_byteOf_BlockDeskModel_size : GoodIn w_BlockDeskModel_byteOf (wsV R_BlockDeskModel 58 R_BlockDeskModel y_BlockDeskModel_size w_BlockDeskModel_size) := goodIn_p _ [5] rfl (by decide +kernel)
set_option maxRecDepth 20000 in
theorem g_BlockDeskModel_put_BlockDeskModel_hold : GoodIn w_BlockDeskModel_put (wsV R_BlockDeskModel 36 R_BlockDeskModel y_BlockDeskModel_hold w_BlockDeskModel_hold) := goodIn_p _ [7] rfl (by decide +kernel)
set_option maxRecDepth 20000 in
theorem g_BlockDeskModel_fill_BlockDeskModel_hold : GoodIn w_BlockDeskModel_fill (wsV R_BlockDeskModel 36 R_BlockDeskModel y_BlockDeskModel_hold w_BlockDeskModel_hold) := goodIn_p _ [7] rfl (by decide +kernel)
set_option maxRecDepth 20000 in
theorem g_BlockDeskModel_record_BlockDeskModel_write : GoodIn w_BlockDeskModel_record (wsV R_BlockDeskModel 49 R_BlockDeskModel y_BlockDeskModel_write w_BlockDeskModel_write) := goodIn_p _ [10] rfl (by decide +kernel)
set_option maxRecDepth 20000 in
theorem g_BlockDeskModel_snapshot_BlockDeskModel_write : GoodIn w_BlockDeskModel_snapshot (wsV R_BlockDeskModel 49 R_BlockDeskModel y_BlockDeskModel_write w_BlockDeskModel_write) := goodIn_p _ [7] rfl (by decide +kernel)
set_option maxRecDepth 20000 in
theorem g_law_law_cell : GoodIn lw_tbl (va_wsS R_law 9 y_law_cell w_law_cell) := goodIn_p _ [136] rfl (by decide +kernel)
set_option maxRecDepth 20000 in
theorem g_law_BlockDesk_init : GoodIn lw_tbl (w_BlockDesk_init) := goodIn_p _ [17, 20] rfl (by decide +kernel)
set_option maxRecDepth 20000 in
theorem g_law_BlockDeskModel_init : GoodIn lw_tbl (w_BlockDeskModel_init) := goodIn_p _ [141, 20] rfl (by decide +kernel)
set_option maxRecDepth 20000 in
theorem g_law_BlockDesk_put : GoodIn lw_tbl (wsV R_law 23 R_BlockDesk y_BlockDesk_put w_BlockDesk_put) := goodIn_p _ [60, 64] rfl (by decide +kernel)
set_option maxRecDepth 20000 in
theorem g_law_BlockDeskModel_put : GoodIn lw_tbl (wsV R_law 27 R_BlockDeskModel y_BlockDeskModel_put w_BlockDeskModel_put) := goodIn_p _ [186, 190] rfl (by decide +kernel)
set_option maxRecDepth 20000 in
theorem g_law_BlockDesk_fill : GoodIn lw_tbl (wsV R_law 28 R_BlockDesk y_BlockDesk_fill w_BlockDesk_fill) := goodIn_p _ [68, 64, 71, 74] rfl (by decide +kernel)
set_option maxRecDepth 20000 in
theorem g_law_BlockDeskModel_fill : GoodIn lw_tbl (wsV R_law 32 R_BlockDeskModel y_BlockDeskModel_fill w_BlockDeskModel_fill) := goodIn_p _ [194, 190] rfl (by decide +kernel)
set_option maxRecDepth 20000 in
theorem g_law_BlockDesk_record : GoodIn lw_tbl (wsV R_law 33 R_BlockDesk y_BlockDesk_record w_BlockDesk_record) := goodIn_p _ [78, 82, 86, 90] rfl (by decide +kernel)
set_option maxRecDepth 20000 in
theorem g_law_BlockDeskModel_record : GoodIn lw_tbl (wsV R_law 37 R_BlockDeskModel y_BlockDeskModel_record w_BlockDeskModel_record) := goodIn_p _ [198, 202] rfl (by decide +kernel)
set_option maxRecDepth 20000 in
theorem g_law_BlockDesk_snapshot : GoodIn lw_tbl (wsV R_law 38 R_BlockDesk y_BlockDesk_snapshot w_BlockDesk_snapshot) := goodIn_p _ [97, 100, 86, 90, 104, 108, 82] rfl (by decide +kernel)
set_option maxRecDepth 20000 in
theorem g_law_BlockDeskModel_snapshot : GoodIn lw_tbl (wsV R_law 41 R_BlockDeskModel y_BlockDeskModel_snapshot w_BlockDeskModel_snapshot) := goodIn_p _ [206, 202] rfl (by decide +kernel)
set_option maxRecDepth 20000 in
theorem g_law_BlockDesk_cut : GoodIn lw_tbl (wsV R_law 42 R_BlockDesk y_BlockDesk_cut w_BlockDesk_cut) := goodIn_p _ [112, 90] rfl (by decide +kernel)
set_option maxRecDepth 20000 in
theorem g_law_BlockDeskModel_cut : GoodIn lw_tbl (wsV R_law 46 R_BlockDeskModel y_BlockDeskModel_cut w_BlockDeskModel_cut) := goodIn_p _ [210] rfl (by decide +kernel)
set_option maxRecDepth 20000 in
theorem g_law_BlockDesk_start : GoodIn lw_tbl (wsV R_law 47 R_BlockDesk y_BlockDesk_start w_BlockDesk_start) := goodIn_p _ [116, 86, 90] rfl (by decide +kernel)
set_option maxRecDepth 20000 in
theorem g_law_BlockDeskModel_start : GoodIn lw_tbl (wsV R_law 50 R_BlockDeskModel y_BlockDeskModel_start w_BlockDeskModel_start) := goodIn_p _ [214, 202] rfl (by decide +kernel)
set_option maxRecDepth 20000 in
theorem g_law_BlockDesk_charge : GoodIn lw_tbl (wsV R_law 51 R_BlockDesk y_BlockDesk_charge w_BlockDesk_charge) := goodIn_p _ [120] rfl (by decide +kernel)
set_option maxRecDepth 20000 in
theorem g_law_BlockDeskModel_charge : GoodIn lw_tbl (wsV R_law 55 R_BlockDeskModel y_BlockDeskModel_charge w_BlockDeskModel_charge) := goodIn_p _ [218] rfl (by decide +kernel)
set_option maxRecDepth 20000 in
theorem g_law_BlockDesk_size : GoodIn lw_tbl (wsV R_law 56 R_BlockDesk y_BlockDesk_size w_BlockDesk_size) := goodIn_p _ [124] rfl (by decide +kernel)
set_option maxRecDepth 20000 in
theorem g_law_BlockDeskModel_size : GoodIn lw_tbl (wsV R_law 60 R_BlockDeskModel y_BlockDeskModel_size w_BlockDeskModel_size) := goodIn_p _ [222] rfl (by decide +kernel)
set_option maxRecDepth 20000 in
theorem g_law_BlockDesk_byteOf : GoodIn lw_tbl (wsV R_law 61 R_BlockDesk y_BlockDesk_byteOf w_BlockDesk_byteOf) := goodIn_p _ [128, 124] rfl (by decide +kernel)
set_option maxRecDepth 20000 in
theorem g_law_BlockDeskModel_byteOf : GoodIn lw_tbl (wsV R_law 65 R_BlockDeskModel y_BlockDeskModel_byteOf w_BlockDeskModel_byteOf) := goodIn_p _ [226, 222] rfl (by decide +kernel)
set_option maxRecDepth 20000 in
theorem g_law_BlockDesk_state : GoodIn lw_tbl (wsV R_law 66 R_BlockDesk y_BlockDesk_state w_BlockDesk_state) := goodIn_p _ [133, 82] rfl (by decide +kernel)
set_option maxRecDepth 20000 in
theorem g_law_BlockDeskModel_state : GoodIn lw_tbl (wsV R_law 69 R_BlockDeskModel y_BlockDeskModel_state w_BlockDeskModel_state) := goodIn_p _ [231] rfl (by decide +kernel)
