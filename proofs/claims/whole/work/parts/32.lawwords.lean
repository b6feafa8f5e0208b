set_option maxRecDepth 20000 in
theorem ggL_law_X1_init : GoodIn lw_tbl wsX1_init := goodIn_r _ [39, 40, 41, 42, 66, 67, 68, 69, 70, 43, 44, 32, 71, 72, 73, 45, 46, 47, 48, 49, 51, 53, 55, 74, 76, 78, 80, 82, 84, 86, 57, 59, 61, 63] (by decide +kernel) (by decide +kernel)
theorem gL_law_X1_init : GoodIn lw_tbl wsX1_init := ggL_law_X1_init
set_option maxRecDepth 20000 in
theorem ggL_law_XM_init : GoodIn lw_tbl wsXM_init := goodIn_r _ [267, 268, 41, 42, 300, 269, 271, 272, 273, 274, 277, 279, 281, 283, 285, 287, 289, 291, 293, 295, 297] (by decide +kernel) (by decide +kernel)
theorem gL_law_XM_init : GoodIn lw_tbl wsXM_init := ggL_law_XM_init
set_option maxRecDepth 20000 in
theorem ggL_law_X1_feed : GoodIn lw_tbl wsX1_feed := goodIn_r _ [92, 68, 93, 95, 0, 31, 96, 97, 99, 1, 100, 67, 74, 76, 78, 80, 82, 84, 86] (by decide +kernel) (by decide +kernel)
set_option maxRecDepth 20000 in
theorem gL_law_X1_feed : GoodIn lw_tbl (wsV RL 13 RX1 yX1_feed wsX1_feed) := goodIn_app (goodIn_r _ [89, 90, 91, 31] (by decide +kernel) (by decide +kernel)) ggL_law_X1_feed
set_option maxRecDepth 20000 in
theorem ggL_law_XM_feed : GoodIn lw_tbl wsXM_feed := goodIn_r _ [304, 270, 305, 307, 20, 33, 308, 269, 279, 281, 283, 285, 287, 289, 291, 293, 295, 297] (by decide +kernel) (by decide +kernel)
set_option maxRecDepth 20000 in
theorem gL_law_XM_feed : GoodIn lw_tbl (wsV RL 17 RXM yXM_feed wsXM_feed) := goodIn_app (goodIn_r _ [301, 302, 303, 33] (by decide +kernel) (by decide +kernel)) ggL_law_XM_feed
set_option maxRecDepth 20000 in
theorem ggL_law_X1_end : GoodIn lw_tbl wsX1_end := goodIn_r _ [104, 68, 74, 76, 78, 80, 82, 84, 86] (by decide +kernel) (by decide +kernel)
set_option maxRecDepth 20000 in
theorem gL_law_X1_end : GoodIn lw_tbl (wsV RL 18 RX1 yX1_end wsX1_end) := goodIn_app (goodIn_r _ [101, 102, 103, 31] (by decide +kernel) (by decide +kernel)) ggL_law_X1_end
set_option maxRecDepth 20000 in
theorem ggL_law_XM_end : GoodIn lw_tbl wsXM_end := goodIn_r _ [312, 270, 279, 281, 283, 285, 287, 289, 291, 293, 295, 297] (by decide +kernel) (by decide +kernel)
set_option maxRecDepth 20000 in
theorem gL_law_XM_end : GoodIn lw_tbl (wsV RL 22 RXM yXM_end wsXM_end) := goodIn_app (goodIn_r _ [309, 310, 311, 33] (by decide +kernel) (by decide +kernel)) ggL_law_XM_end
set_option maxRecDepth 20000 in
theorem ggL_law_X1_read : GoodIn lw_tbl wsX1_read := goodIn_r _ [108, 68, 72, 71, 73, 50, 109, 111, 2, 31, 112, 113, 115, 3, 116, 117, 119, 4, 120, 67, 121, 123, 5, 124, 125, 126, 127, 32, 128, 49, 51, 53, 55, 129, 130, 131, 132, 133, 135, 6, 136, 137, 139, 7, 140, 141, 143, 8, 144, 145, 146, 34, 147, 148, 150, 9, 151, 152, 154, 10, 155, 156, 157, 158, 159, 160, 161, 162, 163, 165, 11, 166, 56, 167, 169, 12, 170, 74, 76, 78, 80, 82, 84, 86, 57, 59, 61, 63] (by decide +kernel) (by decide +kernel)
set_option maxRecDepth 20000 in
theorem gL_law_X1_read : GoodIn lw_tbl (wsV RL 23 RX1 yX1_read wsX1_read) := goodIn_app (goodIn_r _ [105, 106, 107, 31] (by decide +kernel) (by decide +kernel)) ggL_law_X1_read
set_option maxRecDepth 20000 in
theorem ggL_law_XM_read : GoodIn lw_tbl wsXM_read := goodIn_r _ [316, 270, 269, 317, 319, 21, 33, 327, 329, 22, 271, 272, 273, 275, 274, 276, 320, 321, 322, 323, 324, 325, 326, 330, 331, 333, 23, 334, 279, 281, 283, 285, 287, 289, 291, 293, 295, 297] (by decide +kernel) (by decide +kernel)
set_option maxRecDepth 20000 in
theorem gL_law_XM_read : GoodIn lw_tbl (wsV RL 27 RXM yXM_read wsXM_read) := goodIn_app (goodIn_r _ [313, 314, 315, 33] (by decide +kernel) (by decide +kernel)) ggL_law_XM_read
set_option maxRecDepth 20000 in
theorem ggL_law_X1_length : GoodIn lw_tbl wsX1_length := goodIn_r _ [174, 68, 71, 52, 175, 130, 131, 32, 132, 49, 167, 169, 12, 31, 170, 117, 119, 4, 120, 67, 152, 154, 10, 155, 74, 76, 78, 80, 82, 84, 86, 57, 59, 61, 63] (by decide +kernel) (by decide +kernel)
set_option maxRecDepth 20000 in
theorem gL_law_X1_length : GoodIn lw_tbl (wsV RL 28 RX1 yX1_length wsX1_length) := goodIn_app (goodIn_r _ [171, 172, 173, 31] (by decide +kernel) (by decide +kernel)) ggL_law_X1_length
set_option maxRecDepth 20000 in
theorem ggL_law_XM_length : GoodIn lw_tbl wsXM_length := goodIn_r _ [338, 270, 272, 331, 333, 23, 33, 273, 334, 269, 324, 325, 326, 279, 281, 283, 285, 287, 289, 291, 293, 295, 297] (by decide +kernel) (by decide +kernel)
set_option maxRecDepth 20000 in
theorem gL_law_XM_length : GoodIn lw_tbl (wsV RL 31 RXM yXM_length wsXM_length) := goodIn_app (goodIn_r _ [335, 336, 337, 33] (by decide +kernel) (by decide +kernel)) ggL_law_XM_length
set_option maxRecDepth 20000 in
theorem ggL_law_X1_cut : GoodIn lw_tbl wsX1_cut := goodIn_r _ [179, 71, 54, 56, 180, 181, 182, 32, 183, 184, 186, 13, 187, 51, 129, 130, 131, 132, 49, 188, 189, 190, 191, 192, 193, 194, 195, 74, 76, 78, 80, 82, 84, 86, 57, 59, 61, 63] (by decide +kernel) (by decide +kernel)
set_option maxRecDepth 20000 in
theorem gL_law_X1_cut : GoodIn lw_tbl (wsV RL 32 RX1 yX1_cut wsX1_cut) := goodIn_app (goodIn_r _ [176, 177, 178, 31] (by decide +kernel) (by decide +kernel)) ggL_law_X1_cut
set_option maxRecDepth 20000 in
theorem ggL_law_XM_cut : GoodIn lw_tbl wsXM_cut := goodIn_r _ [342, 272, 273, 343, 345, 24, 33, 271, 346, 279, 281, 283, 285, 287, 289, 291, 293, 295, 297] (by decide +kernel) (by decide +kernel)
set_option maxRecDepth 20000 in
theorem gL_law_XM_cut : GoodIn lw_tbl (wsV RL 36 RXM yXM_cut wsXM_cut) := goodIn_app (goodIn_r _ [339, 340, 341, 33] (by decide +kernel) (by decide +kernel)) ggL_law_XM_cut
set_option maxRecDepth 20000 in
theorem ggL_law_X1_covers : GoodIn lw_tbl wsX1_covers := goodIn_r _ [199, 71, 50, 72, 52, 54, 56, 180, 181, 182, 32, 183, 184, 186, 13, 187, 51, 129, 130, 131, 132, 49, 188, 189, 190, 191, 192, 193, 194, 195, 74, 76, 78, 80, 82, 84, 86, 57, 59, 61, 63] (by decide +kernel) (by decide +kernel)
set_option maxRecDepth 20000 in
theorem gL_law_X1_covers : GoodIn lw_tbl (wsV RL 37 RX1 yX1_covers wsX1_covers) := goodIn_app (goodIn_r _ [196, 197, 198, 31] (by decide +kernel) (by decide +kernel)) ggL_law_X1_covers
set_option maxRecDepth 20000 in
theorem ggL_law_XM_covers : GoodIn lw_tbl wsXM_covers := goodIn_r _ [350, 272, 273, 343, 345, 24, 33, 346, 271, 279, 281, 283, 285, 287, 289, 291, 293, 295, 297] (by decide +kernel) (by decide +kernel)
set_option maxRecDepth 20000 in
theorem gL_law_XM_covers : GoodIn lw_tbl (wsV RL 40 RXM yXM_covers wsXM_covers) := goodIn_app (goodIn_r _ [347, 348, 349, 33] (by decide +kernel) (by decide +kernel)) ggL_law_XM_covers
set_option maxRecDepth 20000 in
theorem ggL_law_X1_order : GoodIn lw_tbl wsX1_order := goodIn_r _ [203, 71, 50, 72, 54, 56, 52, 204, 205, 31, 206, 207, 74, 76, 78, 80, 82, 84, 86, 57, 59, 61, 63] (by decide +kernel) (by decide +kernel)
set_option maxRecDepth 20000 in
theorem gL_law_X1_order : GoodIn lw_tbl (wsV RL 41 RX1 yX1_order wsX1_order) := goodIn_app (goodIn_r _ [200, 201, 202, 31] (by decide +kernel) (by decide +kernel)) ggL_law_X1_order
set_option maxRecDepth 20000 in
theorem ggL_law_XM_order : GoodIn lw_tbl wsXM_order := goodIn_r _ [354, 272, 271, 273, 279, 281, 283, 285, 287, 289, 291, 293, 295, 297] (by decide +kernel) (by decide +kernel)
set_option maxRecDepth 20000 in
theorem gL_law_XM_order : GoodIn lw_tbl (wsV RL 44 RXM yXM_order wsXM_order) := goodIn_app (goodIn_r _ [351, 352, 353, 33] (by decide +kernel) (by decide +kernel)) ggL_law_XM_order
set_option maxRecDepth 20000 in
theorem ggL_law_X1_turn : GoodIn lw_tbl wsX1_turn := goodIn_r _ [211, 71, 72, 74, 76, 78, 80, 82, 84, 86] (by decide +kernel) (by decide +kernel)
set_option maxRecDepth 20000 in
theorem gL_law_X1_turn : GoodIn lw_tbl (wsV RL 45 RX1 yX1_turn wsX1_turn) := goodIn_app (goodIn_r _ [208, 209, 210, 31] (by decide +kernel) (by decide +kernel)) ggL_law_X1_turn
set_option maxRecDepth 20000 in
theorem ggL_law_XM_turn : GoodIn lw_tbl wsXM_turn := goodIn_r _ [358, 271, 272, 273, 279, 281, 283, 285, 287, 289, 291, 293, 295, 297] (by decide +kernel) (by decide +kernel)
set_option maxRecDepth 20000 in
theorem gL_law_XM_turn : GoodIn lw_tbl (wsV RL 48 RXM yXM_turn wsXM_turn) := goodIn_app (goodIn_r _ [355, 356, 357, 33] (by decide +kernel) (by decide +kernel)) ggL_law_XM_turn
set_option maxRecDepth 20000 in
theorem ggL_law_X1_write : GoodIn lw_tbl wsX1_write := goodIn_r _ [215, 70, 71, 50, 216, 218, 14, 31, 219, 56, 220, 222, 15, 223, 69, 224, 226, 16, 227, 228, 230, 17, 231, 232, 234, 18, 235, 236, 237, 238, 32, 239, 240, 241, 242, 243, 244, 245, 246, 247, 53, 55, 248, 160, 161, 162, 249, 250, 251, 253, 19, 254, 74, 76, 78, 80, 82, 84, 86, 57, 59, 61, 63] (by decide +kernel) (by decide +kernel)
set_option maxRecDepth 20000 in
theorem gL_law_X1_write : GoodIn lw_tbl (wsV RL 49 RX1 yX1_write wsX1_write) := goodIn_app (goodIn_r _ [212, 213, 214, 31] (by decide +kernel) (by decide +kernel)) ggL_law_X1_write
set_option maxRecDepth 20000 in
theorem ggL_law_XM_write : GoodIn lw_tbl wsXM_write := goodIn_r _ [362, 278, 272, 363, 365, 25, 33, 271, 367, 369, 26, 371, 373, 27, 375, 377, 28, 379, 381, 29, 366, 277, 370, 374, 378, 382, 279, 281, 283, 285, 287, 289, 291, 293, 295, 297] (by decide +kernel) (by decide +kernel)
set_option maxRecDepth 20000 in
theorem gL_law_XM_write : GoodIn lw_tbl (wsV RL 52 RXM yXM_write wsXM_write) := goodIn_app (goodIn_r _ [359, 360, 361, 33] (by decide +kernel) (by decide +kernel)) ggL_law_XM_write
set_option maxRecDepth 20000 in
theorem ggL_law_X1_writtenAt : GoodIn lw_tbl wsX1_writtenAt := goodIn_r _ [258, 70, 69, 74, 76, 78, 80, 82, 84, 86] (by decide +kernel) (by decide +kernel)
set_option maxRecDepth 20000 in
theorem gL_law_X1_writtenAt : GoodIn lw_tbl (wsV RL 53 RX1 yX1_writtenAt wsX1_writtenAt) := goodIn_app (goodIn_r _ [255, 256, 257, 31] (by decide +kernel) (by decide +kernel)) ggL_law_X1_writtenAt
set_option maxRecDepth 20000 in
theorem ggL_law_XM_writtenAt : GoodIn lw_tbl wsXM_writtenAt := goodIn_r _ [386, 278, 277, 279, 281, 283, 285, 287, 289, 291, 293, 295, 297] (by decide +kernel) (by decide +kernel)
set_option maxRecDepth 20000 in
theorem gL_law_XM_writtenAt : GoodIn lw_tbl (wsV RL 57 RXM yXM_writtenAt wsXM_writtenAt) := goodIn_app (goodIn_r _ [383, 384, 385, 33] (by decide +kernel) (by decide +kernel)) ggL_law_XM_writtenAt
set_option maxRecDepth 20000 in
theorem ggL_law_X1_bits : GoodIn lw_tbl wsX1_bits := goodIn_r _ [262, 71, 54, 56, 74, 76, 78, 80, 82, 84, 86, 57, 59, 61, 63] (by decide +kernel) (by decide +kernel)
set_option maxRecDepth 20000 in
theorem gL_law_X1_bits : GoodIn lw_tbl (wsV RL 58 RX1 yX1_bits wsX1_bits) := goodIn_app (goodIn_r _ [259, 260, 261, 31] (by decide +kernel) (by decide +kernel)) ggL_law_X1_bits
set_option maxRecDepth 20000 in
theorem ggL_law_XM_bits : GoodIn lw_tbl wsXM_bits := goodIn_r _ [390, 271, 279, 281, 283, 285, 287, 289, 291, 293, 295, 297] (by decide +kernel) (by decide +kernel)
set_option maxRecDepth 20000 in
theorem gL_law_XM_bits : GoodIn lw_tbl (wsV RL 62 RXM yXM_bits wsXM_bits) := goodIn_app (goodIn_r _ [387, 388, 389, 33] (by decide +kernel) (by decide +kernel)) ggL_law_XM_bits
