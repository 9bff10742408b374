set_option maxRecDepth 20000 in
theorem ggL_law_X6_init : GoodIn wsL_law wsX6_init := goodIn_r _ [9, 10, 11, 12, 13, 14, 15, 16, 17, 18, 19, 20, 21, 22, 23, 24, 25, 26, 27, 28, 29, 30, 31, 32, 33, 34, 35, 36, 37, 38, 39, 40, 41, 42, 43, 44, 45, 46, 47, 48, 49, 50, 51, 52, 53, 54, 55, 56, 57, 58, 59, 60, 61, 62, 63, 64, 65, 66, 67, 68, 69, 70, 71, 72, 73, 74, 75, 76, 77, 78, 79, 80, 81, 82, 83, 84, 85, 86, 87, 88, 89, 90, 91, 92, 783, 784, 785, 786, 787, 769, 770, 771, 772, 773, 788, 789, 790, 791, 792, 793, 794, 795, 796, 797, 798, 799, 800, 801, 802, 803, 804, 805, 806, 807, 808] rfl (by decide +kernel)
set_option maxRecDepth 20000 in
theorem gL_law_X6_init : GoodIn wsL_law (wsX6_init) := ggL_law_X6_init
set_option maxRecDepth 20000 in
theorem ggL_law_X7_init : GoodIn wsL_law wsX7_init := goodIn_r _ [95, 96, 11, 12, 47, 97, 98, 99, 100, 101, 102, 103, 104, 105, 106, 5, 107, 774, 775, 776, 777, 778, 779, 780, 781, 782] rfl (by decide +kernel)
set_option maxRecDepth 20000 in
theorem gL_law_X7_init : GoodIn wsL_law (wsX7_init) := ggL_law_X7_init
set_option maxRecDepth 20000 in
theorem ggL_law_X6_chalk : GoodIn wsL_law wsX6_chalk := goodIn_r _ [111, 112, 113, 114, 2, 115, 20, 16, 116, 117, 118, 19, 119, 78, 120, 121, 122, 15, 123, 37, 41, 42, 124, 125, 126, 127, 128, 36, 129, 48, 49, 130, 56, 54, 131, 132, 133, 40, 134, 70, 135, 136, 71, 137, 138, 139, 140, 141, 142, 143, 144, 145, 146, 147, 148, 149, 150, 151, 152, 153, 154, 155, 156, 157, 158, 159, 160, 161, 162, 163, 164, 165, 166, 167, 168, 169, 58, 59, 170, 171, 172, 173, 63, 64, 65, 60, 61, 62, 174, 175, 176, 177, 178, 179, 180, 181, 182, 183, 184, 185, 186, 187, 188, 189, 190, 191, 192, 193, 194, 195, 196, 197, 198, 199, 200, 201, 202, 203, 204, 205, 206, 207, 208, 209, 57, 210, 211, 212, 213, 214, 215, 216, 217, 218, 219, 220, 221, 222, 223, 224, 225, 226, 227, 55, 228, 229, 230, 231, 232, 233, 234, 51, 52, 53, 235, 236, 237, 238, 239, 240, 241, 242, 243, 244, 245, 246, 247, 248, 249, 250, 251, 252, 253, 254, 255, 256, 257, 258, 259, 260, 261, 262, 263, 264, 265, 266, 267, 268, 269, 270, 271, 272, 273, 274, 275, 276, 77, 277, 278, 279, 280, 769, 770, 771, 772, 773, 788, 789, 790, 783, 784, 785, 786, 787, 795, 796, 797, 798, 799, 800, 801, 802, 803, 804, 805, 806, 807, 808] rfl (by decide +kernel)
set_option maxRecDepth 20000 in
theorem gL_law_X6_chalk : GoodIn wsL_law (wsV RL 13 RX6 yX6_chalk wsX6_chalk) := goodIn_app (goodIn_of _ (by decide +kernel)) ggL_law_X6_chalk
set_option maxRecDepth 20000 in
theorem ggL_law_X7_chalk : GoodIn wsL_law wsX7_chalk := goodIn_r _ [284, 285, 286, 287, 5, 288, 289, 290, 291, 292, 98, 97, 293, 294, 295, 296, 297, 298, 299, 300, 301, 302, 303, 304, 305, 306, 307, 308, 309, 310, 311, 312, 313, 314, 315, 316, 317, 318, 319, 320, 321, 322, 323, 324, 325, 326, 327, 328, 329, 330, 331, 332, 333, 334, 335, 336, 337, 338, 339, 340, 105, 106, 107, 341, 342, 343, 344, 345, 346, 347, 348, 349, 350, 351, 352, 104, 353, 354, 355, 356, 357, 358, 359, 360, 361, 362, 363, 364, 365, 366, 367, 368, 369, 370, 371, 372, 373, 374, 375, 376, 377, 378, 379, 380, 381, 382, 383, 384, 385, 386, 387, 388, 389, 390, 391, 392, 393, 394, 395, 396, 397, 398, 399, 400, 401, 99, 774, 775, 776, 777, 778, 779, 780, 781, 782] rfl (by decide +kernel)
set_option maxRecDepth 20000 in
theorem gL_law_X7_chalk : GoodIn wsL_law (wsV RL 17 RX7 yX7_chalk wsX7_chalk) := goodIn_app (goodIn_of _ (by decide +kernel)) ggL_law_X7_chalk
set_option maxRecDepth 20000 in
theorem ggL_law_X6_snip : GoodIn wsL_law wsX6_snip := goodIn_r _ [405, 112, 113, 114, 2, 115, 20, 16, 116, 117, 118, 19, 119, 78, 120, 121, 122, 15, 123, 37, 41, 42, 124, 125, 126, 127, 128, 36, 129, 48, 49, 130, 56, 54, 131, 132, 133, 40, 134, 70, 135, 136, 71, 137, 138, 139, 140, 141, 142, 143, 144, 145, 146, 147, 148, 149, 150, 151, 152, 153, 154, 155, 156, 157, 158, 159, 160, 161, 162, 163, 164, 165, 166, 167, 168, 169, 58, 59, 170, 171, 172, 173, 63, 64, 65, 60, 61, 62, 174, 175, 176, 177, 178, 179, 180, 181, 182, 183, 184, 185, 186, 187, 188, 189, 190, 191, 192, 193, 194, 195, 196, 197, 198, 199, 200, 201, 202, 203, 204, 205, 206, 207, 208, 209, 57, 210, 211, 212, 213, 214, 215, 216, 217, 218, 219, 220, 221, 222, 223, 224, 225, 226, 227, 55, 228, 229, 230, 231, 232, 233, 234, 51, 52, 53, 235, 236, 237, 238, 239, 240, 241, 242, 243, 244, 245, 246, 247, 248, 249, 250, 251, 252, 253, 254, 255, 256, 257, 258, 259, 260, 261, 262, 263, 264, 265, 266, 267, 268, 269, 270, 271, 272, 273, 274, 275, 276, 77, 277, 278, 279, 280, 769, 770, 771, 772, 773, 788, 789, 790, 783, 784, 785, 786, 787, 795, 796, 797, 798, 799, 800, 801, 802, 803, 804, 805, 806, 807, 808] rfl (by decide +kernel)
set_option maxRecDepth 20000 in
theorem gL_law_X6_snip : GoodIn wsL_law (wsV RL 18 RX6 yX6_snip wsX6_snip) := goodIn_app (goodIn_of _ (by decide +kernel)) ggL_law_X6_snip
set_option maxRecDepth 20000 in
theorem ggL_law_X7_snip : GoodIn wsL_law wsX7_snip := goodIn_r _ [409, 285, 286, 287, 5, 288, 289, 290, 291, 292, 98, 97, 293, 294, 295, 296, 297, 298, 299, 300, 301, 302, 303, 304, 305, 306, 307, 308, 309, 310, 311, 312, 313, 314, 315, 316, 317, 318, 319, 320, 321, 322, 323, 324, 325, 326, 327, 328, 329, 330, 331, 332, 333, 334, 335, 336, 337, 338, 339, 340, 105, 106, 107, 341, 342, 343, 344, 345, 346, 347, 348, 349, 350, 351, 352, 104, 353, 354, 355, 356, 357, 358, 359, 360, 361, 362, 363, 364, 365, 366, 367, 368, 369, 370, 371, 372, 373, 374, 375, 376, 377, 378, 379, 380, 381, 382, 383, 384, 385, 386, 387, 388, 389, 390, 391, 392, 393, 394, 395, 396, 397, 398, 399, 400, 401, 99, 774, 775, 776, 777, 778, 779, 780, 781, 782] rfl (by decide +kernel)
set_option maxRecDepth 20000 in
theorem gL_law_X7_snip : GoodIn wsL_law (wsV RL 21 RX7 yX7_snip wsX7_snip) := goodIn_app (goodIn_of _ (by decide +kernel)) ggL_law_X7_snip
set_option maxRecDepth 20000 in
theorem ggL_law_X6_sew : GoodIn wsL_law wsX6_sew := goodIn_r _ [413, 112, 113, 114, 2, 115, 20, 16, 116, 117, 118, 19, 119, 78, 120, 121, 122, 15, 123, 37, 41, 42, 124, 125, 126, 127, 128, 36, 129, 48, 49, 130, 56, 54, 131, 132, 133, 40, 134, 70, 135, 136, 71, 137, 138, 139, 140, 141, 142, 143, 144, 145, 146, 147, 148, 149, 150, 151, 152, 153, 154, 155, 156, 157, 158, 159, 160, 161, 162, 163, 164, 165, 166, 167, 168, 169, 58, 59, 170, 171, 172, 173, 63, 64, 65, 60, 61, 62, 174, 175, 176, 177, 178, 179, 180, 181, 182, 183, 184, 185, 186, 187, 188, 189, 190, 191, 192, 193, 194, 195, 196, 197, 198, 199, 200, 201, 202, 203, 204, 205, 206, 207, 208, 209, 57, 210, 211, 212, 213, 214, 215, 216, 217, 218, 219, 220, 221, 222, 223, 224, 225, 226, 227, 55, 228, 229, 230, 231, 232, 233, 234, 51, 52, 53, 235, 236, 237, 238, 239, 240, 241, 242, 243, 244, 245, 246, 247, 248, 249, 250, 251, 252, 253, 254, 255, 256, 257, 258, 259, 260, 261, 262, 263, 264, 265, 266, 267, 268, 269, 270, 271, 272, 273, 274, 275, 276, 77, 277, 278, 279, 280, 769, 770, 771, 772, 773, 788, 789, 790, 783, 784, 785, 786, 787, 795, 796, 797, 798, 799, 800, 801, 802, 803, 804, 805, 806, 807, 808] rfl (by decide +kernel)
set_option maxRecDepth 20000 in
theorem gL_law_X6_sew : GoodIn wsL_law (wsV RL 22 RX6 yX6_sew wsX6_sew) := goodIn_app (goodIn_of _ (by decide +kernel)) ggL_law_X6_sew
set_option maxRecDepth 20000 in
theorem ggL_law_X7_sew : GoodIn wsL_law wsX7_sew := goodIn_r _ [417, 285, 286, 287, 5, 288, 289, 290, 291, 292, 98, 97, 293, 294, 295, 296, 297, 298, 299, 300, 301, 302, 303, 304, 305, 306, 307, 308, 309, 310, 311, 312, 313, 314, 315, 316, 317, 318, 319, 320, 321, 322, 323, 324, 325, 326, 327, 328, 329, 330, 331, 332, 333, 334, 335, 336, 337, 338, 339, 340, 105, 106, 107, 341, 342, 343, 344, 345, 346, 347, 348, 349, 350, 351, 352, 104, 353, 354, 355, 356, 357, 358, 359, 360, 361, 362, 363, 364, 365, 366, 367, 368, 369, 370, 371, 372, 373, 374, 375, 376, 377, 378, 379, 380, 381, 382, 383, 384, 385, 386, 387, 388, 389, 390, 391, 392, 393, 394, 395, 396, 397, 398, 399, 400, 401, 99, 774, 775, 776, 777, 778, 779, 780, 781, 782] rfl (by decide +kernel)
set_option maxRecDepth 20000 in
theorem gL_law_X7_sew : GoodIn wsL_law (wsV RL 25 RX7 yX7_sew wsX7_sew) := goodIn_app (goodIn_of _ (by decide +kernel)) ggL_law_X7_sew
set_option maxRecDepth 20000 in
theorem ggL_law_X6_bluff : GoodIn wsL_law wsX6_bluff := goodIn_r _ [421, 112, 113, 114, 2, 115, 20, 16, 116, 117, 118, 19, 119, 78, 120, 121, 122, 15, 123, 37, 41, 42, 124, 125, 126, 127, 128, 36, 129, 48, 49, 130, 56, 54, 131, 132, 133, 40, 134, 70, 135, 136, 71, 137, 138, 139, 140, 141, 142, 143, 144, 145, 146, 147, 148, 149, 150, 151, 152, 153, 154, 155, 156, 157, 158, 159, 160, 161, 162, 163, 164, 165, 166, 167, 168, 169, 58, 59, 170, 171, 172, 173, 63, 64, 65, 60, 61, 62, 174, 175, 176, 177, 178, 179, 180, 181, 182, 183, 184, 185, 186, 187, 188, 189, 190, 191, 192, 193, 194, 195, 196, 197, 198, 199, 200, 201, 202, 203, 204, 205, 206, 207, 208, 209, 57, 210, 211, 212, 213, 214, 215, 216, 217, 218, 219, 220, 221, 222, 223, 224, 225, 226, 227, 55, 228, 229, 230, 231, 232, 233, 234, 51, 52, 53, 235, 236, 237, 238, 239, 240, 241, 242, 243, 244, 245, 246, 247, 248, 249, 250, 251, 252, 253, 254, 255, 256, 257, 258, 259, 260, 261, 262, 263, 264, 265, 266, 267, 268, 269, 270, 271, 272, 273, 274, 275, 276, 77, 277, 278, 279, 280, 769, 770, 771, 772, 773, 788, 789, 790, 783, 784, 785, 786, 787, 795, 796, 797, 798, 799, 800, 801, 802, 803, 804, 805, 806, 807, 808] rfl (by decide +kernel)
set_option maxRecDepth 20000 in
theorem gL_law_X6_bluff : GoodIn wsL_law (wsV RL 26 RX6 yX6_bluff wsX6_bluff) := goodIn_app (goodIn_of _ (by decide +kernel)) ggL_law_X6_bluff
set_option maxRecDepth 20000 in
theorem ggL_law_X7_bluff : GoodIn wsL_law wsX7_bluff := goodIn_r _ [425, 285, 286, 287, 5, 288, 289, 290, 291, 292, 98, 97, 293, 294, 295, 296, 297, 298, 299, 300, 301, 302, 303, 304, 305, 306, 307, 308, 309, 310, 311, 312, 313, 314, 315, 316, 317, 318, 319, 320, 321, 322, 323, 324, 325, 326, 327, 328, 329, 330, 331, 332, 333, 334, 335, 336, 337, 338, 339, 340, 105, 106, 107, 341, 342, 343, 344, 345, 346, 347, 348, 349, 350, 351, 352, 104, 353, 354, 355, 356, 357, 358, 359, 360, 361, 362, 363, 364, 365, 366, 367, 368, 369, 370, 371, 372, 373, 374, 375, 376, 377, 378, 379, 380, 381, 382, 383, 384, 385, 386, 387, 388, 389, 390, 391, 392, 393, 394, 395, 396, 397, 398, 399, 400, 401, 99, 774, 775, 776, 777, 778, 779, 780, 781, 782] rfl (by decide +kernel)
set_option maxRecDepth 20000 in
theorem gL_law_X7_bluff : GoodIn wsL_law (wsV RL 29 RX7 yX7_bluff wsX7_bluff) := goodIn_app (goodIn_of _ (by decide +kernel)) ggL_law_X7_bluff
set_option maxRecDepth 20000 in
theorem ggL_law_X6_doubt : GoodIn wsL_law wsX6_doubt := goodIn_r _ [429, 112, 113, 114, 2, 115, 20, 16, 116, 117, 118, 19, 119, 78, 120, 121, 122, 15, 123, 37, 41, 42, 124, 125, 126, 127, 128, 36, 129, 48, 49, 130, 56, 54, 131, 132, 133, 40, 134, 70, 135, 136, 71, 137, 138, 139, 140, 141, 142, 143, 144, 145, 146, 147, 148, 149, 150, 151, 152, 153, 154, 155, 156, 157, 158, 159, 160, 161, 162, 163, 164, 165, 166, 167, 168, 169, 58, 59, 170, 171, 172, 173, 63, 64, 65, 60, 61, 62, 174, 175, 176, 177, 178, 179, 180, 181, 182, 183, 184, 185, 186, 187, 188, 189, 190, 191, 192, 193, 194, 195, 196, 197, 198, 199, 200, 201, 202, 203, 204, 205, 206, 207, 208, 209, 57, 210, 211, 212, 213, 214, 215, 216, 217, 218, 219, 220, 221, 222, 223, 224, 225, 226, 227, 55, 228, 229, 230, 231, 232, 233, 234, 51, 52, 53, 235, 236, 237, 238, 239, 240, 241, 242, 243, 244, 245, 246, 247, 248, 249, 250, 251, 252, 253, 254, 255, 256, 257, 258, 259, 260, 261, 262, 263, 264, 265, 266, 267, 268, 269, 270, 271, 272, 273, 274, 275, 276, 77, 277, 278, 279, 280, 769, 770, 771, 772, 773, 788, 789, 790, 783, 784, 785, 786, 787, 795, 796, 797, 798, 799, 800, 801, 802, 803, 804, 805, 806, 807, 808] rfl (by decide +kernel)
set_option maxRecDepth 20000 in
theorem gL_law_X6_doubt : GoodIn wsL_law (wsV RL 30 RX6 yX6_doubt wsX6_doubt) := goodIn_app (goodIn_of _ (by decide +kernel)) ggL_law_X6_doubt
set_option maxRecDepth 20000 in
theorem ggL_law_X7_doubt : GoodIn wsL_law wsX7_doubt := goodIn_r _ [433, 285, 286, 287, 5, 288, 289, 290, 291, 292, 98, 97, 293, 294, 295, 296, 297, 298, 299, 300, 301, 302, 303, 304, 305, 306, 307, 308, 309, 310, 311, 312, 313, 314, 315, 316, 317, 318, 319, 320, 321, 322, 323, 324, 325, 326, 327, 328, 329, 330, 331, 332, 333, 334, 335, 336, 337, 338, 339, 340, 105, 106, 107, 341, 342, 343, 344, 345, 346, 347, 348, 349, 350, 351, 352, 104, 353, 354, 355, 356, 357, 358, 359, 360, 361, 362, 363, 364, 365, 366, 367, 368, 369, 370, 371, 372, 373, 374, 375, 376, 377, 378, 379, 380, 381, 382, 383, 384, 385, 386, 387, 388, 389, 390, 391, 392, 393, 394, 395, 396, 397, 398, 399, 400, 401, 99, 774, 775, 776, 777, 778, 779, 780, 781, 782] rfl (by decide +kernel)
set_option maxRecDepth 20000 in
theorem gL_law_X7_doubt : GoodIn wsL_law (wsV RL 33 RX7 yX7_doubt wsX7_doubt) := goodIn_app (goodIn_of _ (by decide +kernel)) ggL_law_X7_doubt
set_option maxRecDepth 20000 in
theorem ggL_law_X6_pass : GoodIn wsL_law wsX6_pass := goodIn_r _ [437, 112, 113, 114, 2, 115, 20, 16, 116, 117, 118, 19, 119, 78, 120, 121, 122, 15, 123, 37, 41, 42, 124, 125, 126, 127, 128, 36, 129, 48, 49, 130, 56, 54, 131, 132, 133, 40, 134, 70, 135, 136, 71, 137, 138, 139, 140, 141, 142, 143, 144, 145, 146, 147, 148, 149, 150, 151, 152, 153, 154, 155, 156, 157, 158, 159, 160, 161, 162, 163, 164, 165, 166, 167, 168, 169, 58, 59, 170, 171, 172, 173, 63, 64, 65, 60, 61, 62, 174, 175, 176, 177, 178, 179, 180, 181, 182, 183, 184, 185, 186, 187, 188, 189, 190, 191, 192, 193, 194, 195, 196, 197, 198, 199, 200, 201, 202, 203, 204, 205, 206, 207, 208, 209, 57, 210, 211, 212, 213, 214, 215, 216, 217, 218, 219, 220, 221, 222, 223, 224, 225, 226, 227, 55, 228, 229, 230, 231, 232, 233, 234, 51, 52, 53, 235, 236, 237, 238, 239, 240, 241, 242, 243, 244, 245, 246, 247, 248, 249, 250, 251, 252, 253, 254, 255, 256, 257, 258, 259, 260, 261, 262, 263, 264, 265, 266, 267, 268, 269, 270, 271, 272, 273, 274, 275, 276, 77, 277, 278, 279, 280, 769, 770, 771, 772, 773, 788, 789, 790, 783, 784, 785, 786, 787, 795, 796, 797, 798, 799, 800, 801, 802, 803, 804, 805, 806, 807, 808] rfl (by decide +kernel)
set_option maxRecDepth 20000 in
theorem gL_law_X6_pass : GoodIn wsL_law (wsV RL 34 RX6 yX6_pass wsX6_pass) := goodIn_app (goodIn_of _ (by decide +kernel)) ggL_law_X6_pass
set_option maxRecDepth 20000 in
theorem ggL_law_X7_pass : GoodIn wsL_law wsX7_pass := goodIn_r _ [441, 285, 286, 287, 5, 288, 289, 290, 291, 292, 98, 97, 293, 294, 295, 296, 297, 298, 299, 300, 301, 302, 303, 304, 305, 306, 307, 308, 309, 310, 311, 312, 313, 314, 315, 316, 317, 318, 319, 320, 321, 322, 323, 324, 325, 326, 327, 328, 329, 330, 331, 332, 333, 334, 335, 336, 337, 338, 339, 340, 105, 106, 107, 341, 342, 343, 344, 345, 346, 347, 348, 349, 350, 351, 352, 104, 353, 354, 355, 356, 357, 358, 359, 360, 361, 362, 363, 364, 365, 366, 367, 368, 369, 370, 371, 372, 373, 374, 375, 376, 377, 378, 379, 380, 381, 382, 383, 384, 385, 386, 387, 388, 389, 390, 391, 392, 393, 394, 395, 396, 397, 398, 399, 400, 401, 99, 774, 775, 776, 777, 778, 779, 780, 781, 782] rfl (by decide +kernel)
set_option maxRecDepth 20000 in
theorem gL_law_X7_pass : GoodIn wsL_law (wsV RL 38 RX7 yX7_pass wsX7_pass) := goodIn_app (goodIn_of _ (by decide +kernel)) ggL_law_X7_pass
set_option maxRecDepth 20000 in
theorem ggL_law_X6_of : GoodIn wsL_law wsX6_of := goodIn_r _ [445, 16, 446, 447, 58, 36, 59, 448, 207, 208, 209, 48, 57, 449, 171, 172, 173, 130, 63, 64, 65, 60, 61, 62, 174, 175, 176, 450, 451, 2, 452, 453, 454, 232, 233, 455, 456, 457, 15, 458, 41, 42, 190, 191, 192, 40, 193, 135, 70, 459, 460, 461, 462, 37, 150, 151, 152, 153, 125, 154, 155, 156, 157, 158, 159, 160, 161, 162, 163, 164, 170, 268, 269, 270, 271, 49, 463, 187, 188, 189, 54, 56, 769, 770, 771, 772, 773, 783, 784, 785, 786, 787, 795, 796, 797, 798, 799, 800, 801, 802, 803, 804, 805, 806, 807, 808] rfl (by decide +kernel)
set_option maxRecDepth 20000 in
theorem gL_law_X6_of : GoodIn wsL_law (wsV RL 39 RX6 yX6_of wsX6_of) := goodIn_app (goodIn_of _ (by decide +kernel)) ggL_law_X6_of
set_option maxRecDepth 20000 in
theorem ggL_law_X7_of : GoodIn wsL_law wsX7_of := goodIn_r _ [467, 97, 301, 302, 5, 303, 304, 305, 306, 323, 324, 325, 326, 327, 328, 329, 315, 316, 317, 318, 330, 331, 332, 333, 334, 335, 336, 337, 338, 339, 340, 105, 106, 107, 341, 342, 343, 344, 319, 320, 321, 322, 774, 775, 776, 777, 778, 779, 780, 781, 782] rfl (by decide +kernel)
set_option maxRecDepth 20000 in
theorem gL_law_X7_of : GoodIn wsL_law (wsV RL 43 RX7 yX7_of wsX7_of) := goodIn_app (goodIn_of _ (by decide +kernel)) ggL_law_X7_of
set_option maxRecDepth 20000 in
theorem ggL_law_X6_cell : GoodIn wsL_law wsX6_cell := goodIn_r _ [471, 16, 446, 472, 473, 36, 474, 475, 476, 477, 478, 130, 174, 175, 176, 450, 451, 2, 452, 479, 480, 481, 482, 56, 54, 483, 228, 229, 230, 484, 159, 160, 161, 162, 163, 164, 485, 486, 487, 488, 489, 490, 491, 492, 493, 494, 187, 188, 189, 63, 64, 65, 60, 61, 62, 231, 232, 233, 769, 770, 771, 772, 773, 783, 784, 785, 786, 787, 795, 796, 797, 798, 799] rfl (by decide +kernel)
set_option maxRecDepth 20000 in
theorem gL_law_X6_cell : GoodIn wsL_law (wsV RL 44 RX6 yX6_cell wsX6_cell) := goodIn_app (goodIn_of _ (by decide +kernel)) ggL_law_X6_cell
set_option maxRecDepth 20000 in
theorem ggL_law_X7_cell : GoodIn wsL_law wsX7_cell := goodIn_r _ [498, 499, 500, 5, 501, 304, 305, 306, 315, 316, 317, 318, 97, 502, 503, 504, 505, 104, 365, 366, 367, 368, 319, 320, 321, 322, 323, 324, 325, 326, 327, 328, 329, 330, 331, 332, 369, 370, 371, 372, 506, 507, 508, 509, 774, 775, 776, 777, 778, 779, 780, 781, 782] rfl (by decide +kernel)
set_option maxRecDepth 20000 in
theorem gL_law_X7_cell : GoodIn wsL_law (wsV RL 47 RX7 yX7_cell wsX7_cell) := goodIn_app (goodIn_of _ (by decide +kernel)) ggL_law_X7_cell
set_option maxRecDepth 20000 in
theorem ggL_law_X6_player : GoodIn wsL_law wsX6_player := goodIn_r _ [513, 16, 514, 515, 516, 517, 518, 519, 520, 521, 522, 523, 15, 524, 525, 183, 184, 185, 41, 42, 769, 770, 771, 772, 773, 800, 801, 802, 803, 804, 805, 806, 807, 808, 783, 784, 785, 786, 787] rfl (by decide +kernel)
set_option maxRecDepth 20000 in
theorem gL_law_X6_player : GoodIn wsL_law (wsV RL 48 RX6 yX6_player wsX6_player) := goodIn_app (goodIn_of _ (by decide +kernel)) ggL_law_X6_player
set_option maxRecDepth 20000 in
theorem ggL_law_X7_player : GoodIn wsL_law wsX7_player := goodIn_r _ [529, 97, 304, 305, 5, 306, 105, 106, 107, 774, 775, 776, 777, 778, 779, 780, 781, 782] rfl (by decide +kernel)
set_option maxRecDepth 20000 in
theorem gL_law_X7_player : GoodIn wsL_law (wsV RL 51 RX7 yX7_player wsX7_player) := goodIn_app (goodIn_of _ (by decide +kernel)) ggL_law_X7_player
set_option maxRecDepth 20000 in
theorem ggL_law_X6_chalked : GoodIn wsL_law wsX6_chalked := goodIn_r _ [533, 16, 522, 523, 15, 524, 525, 183, 184, 185, 41, 42, 534, 535, 536, 40, 537, 135, 70, 769, 770, 771, 772, 773, 783, 784, 785, 786, 787, 800, 801, 802, 803, 804, 805, 806, 807, 808] rfl (by decide +kernel)
set_option maxRecDepth 20000 in
theorem gL_law_X6_chalked : GoodIn wsL_law (wsV RL 52 RX6 yX6_chalked wsX6_chalked) := goodIn_app (goodIn_of _ (by decide +kernel)) ggL_law_X6_chalked
set_option maxRecDepth 20000 in
theorem ggL_law_X7_chalked : GoodIn wsL_law wsX7_chalked := goodIn_r _ [541, 97, 304, 305, 5, 306, 105, 106, 107, 341, 342, 343, 344, 774, 775, 776, 777, 778, 779, 780, 781, 782] rfl (by decide +kernel)
set_option maxRecDepth 20000 in
theorem gL_law_X7_chalked : GoodIn wsL_law (wsV RL 55 RX7 yX7_chalked wsX7_chalked) := goodIn_app (goodIn_of _ (by decide +kernel)) ggL_law_X7_chalked
set_option maxRecDepth 20000 in
theorem ggL_law_X6_count : GoodIn wsL_law wsX6_count := goodIn_r _ [545, 16, 546, 547, 446, 29, 548, 20, 549, 550, 151, 152, 15, 153, 125, 37, 154, 155, 156, 36, 157, 130, 158, 159, 160, 161, 162, 163, 164, 450, 451, 2, 452, 551, 552, 553, 554, 41, 214, 42, 150, 555, 556, 557, 558, 559, 174, 175, 176, 489, 480, 481, 482, 56, 54, 483, 476, 477, 478, 228, 229, 230, 560, 258, 259, 260, 48, 261, 171, 172, 173, 63, 64, 65, 60, 61, 62, 769, 770, 771, 772, 773, 783, 784, 785, 786, 787, 793, 794, 788, 789, 790, 795, 796, 797, 798, 799, 800, 801, 802, 803, 804, 805, 806, 807, 808] rfl (by decide +kernel)
set_option maxRecDepth 20000 in
theorem gL_law_X6_count : GoodIn wsL_law (wsV RL 56 RX6 yX6_count wsX6_count) := goodIn_app (goodIn_of _ (by decide +kernel)) ggL_law_X6_count
set_option maxRecDepth 20000 in
theorem ggL_law_X7_count : GoodIn wsL_law wsX7_count := goodIn_r _ [564, 97, 565, 401, 307, 308, 309, 5, 310, 311, 312, 313, 314, 315, 316, 317, 318, 566, 567, 568, 569, 105, 106, 107, 570, 571, 572, 573, 104, 365, 366, 367, 368, 319, 320, 321, 322, 323, 324, 325, 326, 327, 328, 329, 330, 331, 332, 385, 386, 387, 388, 774, 775, 776, 777, 778, 779, 780, 781, 782] rfl (by decide +kernel)
set_option maxRecDepth 20000 in
theorem gL_law_X7_count : GoodIn wsL_law (wsV RL 59 RX7 yX7_count wsX7_count) := goodIn_app (goodIn_of _ (by decide +kernel)) ggL_law_X7_count
set_option maxRecDepth 20000 in
theorem ggL_law_X6_why : GoodIn wsL_law wsX6_why := goodIn_r _ [577, 16, 447, 58, 36, 59, 578, 203, 204, 15, 205, 37, 150, 151, 152, 153, 125, 154, 155, 156, 157, 130, 158, 159, 160, 161, 162, 163, 164, 170, 171, 172, 173, 63, 64, 65, 60, 61, 62, 174, 175, 176, 206, 207, 208, 209, 48, 57, 769, 770, 771, 772, 773, 783, 784, 785, 786, 787, 795, 796, 797, 798, 799] rfl (by decide +kernel)
set_option maxRecDepth 20000 in
theorem gL_law_X6_why : GoodIn wsL_law (wsV RL 60 RX6 yX6_why wsX6_why) := goodIn_app (goodIn_of _ (by decide +kernel)) ggL_law_X6_why
set_option maxRecDepth 20000 in
theorem ggL_law_X7_why : GoodIn wsL_law wsX7_why := goodIn_r _ [582, 301, 302, 5, 303, 304, 305, 306, 353, 354, 355, 356, 97, 307, 308, 309, 310, 311, 312, 313, 314, 315, 316, 317, 318, 323, 324, 325, 326, 327, 328, 329, 330, 331, 332, 774, 775, 776, 777, 778, 779, 780, 781, 782] rfl (by decide +kernel)
set_option maxRecDepth 20000 in
theorem gL_law_X7_why : GoodIn wsL_law (wsV RL 63 RX7 yX7_why wsX7_why) := goodIn_app (goodIn_of _ (by decide +kernel)) ggL_law_X7_why
set_option maxRecDepth 20000 in
theorem ggL_law_X6_ifSnipped : GoodIn wsL_law wsX6_ifSnipped := goodIn_r _ [586, 16, 446, 447, 58, 36, 59, 578, 203, 204, 15, 205, 37, 150, 151, 152, 153, 125, 154, 155, 156, 157, 130, 158, 159, 160, 161, 162, 163, 164, 170, 171, 172, 173, 63, 64, 65, 60, 61, 62, 174, 175, 176, 206, 207, 208, 209, 48, 57, 587, 225, 226, 227, 56, 55, 54, 228, 229, 230, 231, 232, 233, 484, 769, 770, 771, 772, 773, 783, 784, 785, 786, 787, 795, 796, 797, 798, 799] rfl (by decide +kernel)
set_option maxRecDepth 20000 in
theorem gL_law_X6_ifSnipped : GoodIn wsL_law (wsV RL 64 RX6 yX6_ifSnipped wsX6_ifSnipped) := goodIn_app (goodIn_of _ (by decide +kernel)) ggL_law_X6_ifSnipped
set_option maxRecDepth 20000 in
theorem ggL_law_X7_ifSnipped : GoodIn wsL_law wsX7_ifSnipped := goodIn_r _ [591, 301, 302, 5, 303, 304, 305, 306, 353, 354, 355, 356, 97, 307, 308, 309, 310, 311, 312, 313, 314, 315, 316, 317, 318, 323, 324, 325, 326, 327, 328, 329, 330, 331, 332, 592, 593, 594, 595, 361, 362, 363, 364, 104, 365, 366, 367, 368, 319, 320, 321, 322, 369, 370, 371, 372, 774, 775, 776, 777, 778, 779, 780, 781, 782] rfl (by decide +kernel)
set_option maxRecDepth 20000 in
theorem gL_law_X7_ifSnipped : GoodIn wsL_law (wsV RL 67 RX7 yX7_ifSnipped wsX7_ifSnipped) := goodIn_app (goodIn_of _ (by decide +kernel)) ggL_law_X7_ifSnipped
set_option maxRecDepth 20000 in
theorem ggL_law_X6_bestSnip : GoodIn wsL_law wsX6_bestSnip := goodIn_r _ [599, 16, 600, 601, 602, 15, 603, 202, 203, 204, 205, 37, 150, 151, 152, 153, 125, 154, 155, 156, 36, 157, 130, 158, 159, 160, 161, 162, 163, 164, 170, 171, 172, 173, 63, 64, 65, 60, 61, 62, 174, 175, 176, 206, 207, 208, 209, 48, 57, 58, 59, 604, 605, 606, 607, 124, 182, 183, 184, 185, 41, 42, 190, 191, 192, 40, 193, 135, 70, 224, 225, 226, 227, 56, 55, 54, 228, 229, 230, 231, 232, 233, 243, 608, 769, 770, 771, 772, 773, 783, 784, 785, 786, 787, 795, 796, 797, 798, 799, 800, 801, 802, 803, 804, 805, 806, 807, 808] rfl (by decide +kernel)
set_option maxRecDepth 20000 in
theorem gL_law_X6_bestSnip : GoodIn wsL_law (wsV RL 68 RX6 yX6_bestSnip wsX6_bestSnip) := goodIn_app (goodIn_of _ (by decide +kernel)) ggL_law_X6_bestSnip
set_option maxRecDepth 20000 in
theorem ggL_law_X7_bestSnip : GoodIn wsL_law wsX7_bestSnip := goodIn_r _ [612, 97, 304, 305, 5, 306, 353, 354, 355, 356, 307, 308, 309, 310, 311, 312, 313, 314, 315, 316, 317, 318, 323, 324, 325, 326, 327, 328, 329, 330, 331, 332, 592, 593, 594, 595, 361, 362, 363, 364, 104, 365, 366, 367, 368, 319, 320, 321, 322, 369, 370, 371, 372, 333, 334, 335, 336, 337, 338, 339, 340, 105, 106, 107, 341, 342, 343, 344, 774, 775, 776, 777, 778, 779, 780, 781, 782] rfl (by decide +kernel)
set_option maxRecDepth 20000 in
theorem gL_law_X7_bestSnip : GoodIn wsL_law (wsV RL 71 RX7 yX7_bestSnip wsX7_bestSnip) := goodIn_app (goodIn_of _ (by decide +kernel)) ggL_law_X7_bestSnip
set_option maxRecDepth 20000 in
theorem ggL_law_X6_weak : GoodIn wsL_law wsX6_weak := goodIn_r _ [616, 16, 446, 550, 151, 152, 15, 153, 125, 37, 154, 155, 156, 36, 157, 130, 158, 159, 160, 161, 162, 163, 164, 617, 618, 619, 620, 494, 187, 188, 189, 54, 56, 63, 64, 65, 60, 61, 62, 174, 175, 176, 621, 225, 226, 227, 55, 228, 229, 230, 231, 232, 233, 769, 770, 771, 772, 773, 783, 784, 785, 786, 787, 795, 796, 797, 798, 799] rfl (by decide +kernel)
set_option maxRecDepth 20000 in
theorem gL_law_X6_weak : GoodIn wsL_law (wsV RL 72 RX6 yX6_weak wsX6_weak) := goodIn_app (goodIn_of _ (by decide +kernel)) ggL_law_X6_weak
set_option maxRecDepth 20000 in
theorem ggL_law_X7_weak : GoodIn wsL_law wsX7_weak := goodIn_r _ [625, 307, 308, 309, 5, 310, 97, 311, 312, 313, 314, 315, 316, 317, 318, 319, 320, 321, 322, 323, 324, 325, 326, 327, 328, 329, 330, 331, 332, 592, 593, 594, 595, 361, 362, 363, 364, 104, 365, 366, 367, 368, 369, 370, 371, 372, 774, 775, 776, 777, 778, 779, 780, 781, 782] rfl (by decide +kernel)
set_option maxRecDepth 20000 in
theorem gL_law_X7_weak : GoodIn wsL_law (wsV RL 75 RX7 yX7_weak wsX7_weak) := goodIn_app (goodIn_of _ (by decide +kernel)) ggL_law_X7_weak
set_option maxRecDepth 20000 in
theorem ggL_law_X6_together : GoodIn wsL_law wsX6_together := goodIn_r _ [629, 16, 446, 472, 473, 36, 474, 475, 476, 477, 478, 130, 174, 175, 176, 479, 480, 481, 482, 56, 54, 483, 228, 229, 230, 630, 631, 632, 633, 48, 261, 171, 172, 173, 63, 64, 65, 60, 61, 62, 634, 450, 451, 2, 452, 769, 770, 771, 772, 773, 783, 784, 785, 786, 787, 795, 796, 797, 798, 799] rfl (by decide +kernel)
set_option maxRecDepth 20000 in
theorem gL_law_X6_together : GoodIn wsL_law (wsV RL 76 RX6 yX6_together wsX6_together) := goodIn_app (goodIn_of _ (by decide +kernel)) ggL_law_X6_together
set_option maxRecDepth 20000 in
theorem ggL_law_X7_together : GoodIn wsL_law wsX7_together := goodIn_r _ [638, 104, 499, 500, 5, 501, 304, 305, 306, 315, 316, 317, 318, 97, 365, 366, 367, 368, 319, 320, 321, 322, 323, 324, 325, 326, 327, 328, 329, 330, 331, 332, 774, 775, 776, 777, 778, 779, 780, 781, 782] rfl (by decide +kernel)
set_option maxRecDepth 20000 in
theorem gL_law_X7_together : GoodIn wsL_law (wsV RL 80 RX7 yX7_together wsX7_together) := goodIn_app (goodIn_of _ (by decide +kernel)) ggL_law_X7_together
set_option maxRecDepth 20000 in
theorem ggL_law_X6_put : GoodIn wsL_law wsX6_put := goodIn_r _ [642, 29, 643, 644, 645, 28, 646, 647, 92, 648, 649, 650, 651, 652, 653, 769, 770, 771, 772, 773, 793, 794] rfl (by decide +kernel)
set_option maxRecDepth 20000 in
theorem gL_law_X6_put : GoodIn wsL_law (wsV RL 83 RX6 yX6_put wsX6_put) := goodIn_app (goodIn_of _ (by decide +kernel)) ggL_law_X6_put
set_option maxRecDepth 20000 in
theorem ggL_law_X7_put : GoodIn wsL_law wsX7_put := goodIn_r _ [657, 658, 565, 103, 304, 305, 5, 306, 774, 775, 776, 777, 778, 779, 780, 781, 782] rfl (by decide +kernel)
set_option maxRecDepth 20000 in
theorem gL_law_X7_put : GoodIn wsL_law (wsV RL 87 RX7 yX7_put wsX7_put) := goodIn_app (goodIn_of _ (by decide +kernel)) ggL_law_X7_put
set_option maxRecDepth 20000 in
theorem ggL_law_X6_wipe : GoodIn wsL_law wsX6_wipe := goodIn_r _ [662, 29, 663, 664, 665, 28, 666, 647, 769, 770, 771, 772, 773, 793, 794] rfl (by decide +kernel)
set_option maxRecDepth 20000 in
theorem gL_law_X6_wipe : GoodIn wsL_law (wsV RL 88 RX6 yX6_wipe wsX6_wipe) := goodIn_app (goodIn_of _ (by decide +kernel)) ggL_law_X6_wipe
set_option maxRecDepth 20000 in
theorem ggL_law_X7_wipe : GoodIn wsL_law wsX7_wipe := goodIn_r _ [670, 565, 774, 775, 776, 777, 778, 779, 780, 781, 782] rfl (by decide +kernel)
set_option maxRecDepth 20000 in
theorem gL_law_X7_wipe : GoodIn wsL_law (wsV RL 91 RX7 yX7_wipe wsX7_wipe) := goodIn_app (goodIn_of _ (by decide +kernel)) ggL_law_X7_wipe
set_option maxRecDepth 20000 in
theorem ggL_law_X6_fault : GoodIn wsL_law wsX6_fault := goodIn_r _ [674, 29, 675, 676, 677, 28, 678, 647, 92, 679, 680, 681, 682, 683, 684, 685, 686, 687, 769, 770, 771, 772, 773, 793, 794] rfl (by decide +kernel)
set_option maxRecDepth 20000 in
theorem gL_law_X6_fault : GoodIn wsL_law (wsV RL 92 RX6 yX6_fault wsX6_fault) := goodIn_app (goodIn_of _ (by decide +kernel)) ggL_law_X6_fault
set_option maxRecDepth 20000 in
theorem ggL_law_X7_fault : GoodIn wsL_law wsX7_fault := goodIn_r _ [691, 692, 693, 694, 5, 695, 565, 103, 696, 697, 698, 699, 700, 701, 702, 703, 704, 705, 706, 707, 304, 305, 306, 774, 775, 776, 777, 778, 779, 780, 781, 782] rfl (by decide +kernel)
set_option maxRecDepth 20000 in
theorem gL_law_X7_fault : GoodIn wsL_law (wsV RL 95 RX7 yX7_fault wsX7_fault) := goodIn_app (goodIn_of _ (by decide +kernel)) ggL_law_X7_fault
set_option maxRecDepth 20000 in
theorem ggL_law_X6_carryOut : GoodIn wsL_law wsX6_carryOut := goodIn_r _ [711, 29, 20, 16, 675, 676, 677, 28, 678, 647, 92, 679, 680, 681, 682, 683, 684, 685, 686, 687, 116, 117, 118, 19, 119, 78, 120, 121, 122, 15, 123, 37, 41, 42, 124, 125, 126, 127, 128, 36, 129, 48, 49, 130, 56, 54, 131, 132, 133, 40, 134, 70, 135, 136, 71, 137, 138, 139, 140, 141, 272, 273, 274, 275, 276, 77, 277, 278, 279, 280, 712, 713, 714, 2, 715, 548, 716, 717, 718, 719, 142, 143, 144, 145, 146, 147, 148, 149, 150, 151, 152, 153, 154, 155, 156, 157, 158, 159, 160, 161, 162, 163, 164, 165, 166, 167, 168, 169, 58, 59, 170, 171, 172, 173, 63, 64, 65, 60, 61, 62, 174, 175, 176, 177, 178, 179, 180, 181, 182, 183, 184, 185, 186, 187, 188, 189, 190, 191, 192, 193, 194, 195, 196, 197, 198, 199, 200, 201, 202, 203, 204, 205, 206, 207, 208, 209, 57, 210, 211, 212, 213, 214, 215, 216, 217, 218, 219, 220, 221, 222, 223, 224, 225, 226, 227, 55, 228, 229, 230, 231, 232, 233, 234, 51, 52, 53, 235, 236, 237, 238, 239, 240, 241, 242, 243, 244, 245, 246, 247, 248, 249, 250, 251, 252, 253, 254, 255, 256, 257, 258, 259, 260, 261, 262, 263, 264, 265, 266, 267, 268, 269, 270, 271, 720, 663, 664, 665, 666, 769, 770, 771, 772, 773, 793, 794, 788, 789, 790, 783, 784, 785, 786, 787, 795, 796, 797, 798, 799, 800, 801, 802, 803, 804, 805, 806, 807, 808] rfl (by decide +kernel)
set_option maxRecDepth 20000 in
theorem gL_law_X6_carryOut : GoodIn wsL_law (wsV RL 96 RX6 yX6_carryOut wsX6_carryOut) := goodIn_app (goodIn_of _ (by decide +kernel)) ggL_law_X6_carryOut
