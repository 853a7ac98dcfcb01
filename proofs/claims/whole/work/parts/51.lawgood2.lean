/-! the law's words -/
set_option maxRecDepth 20000 in
theorem ggL_law_X11_walks : GoodIn wsL_law wsX11_walks := goodIn_r _ [452, 116, 145, 146, 5, 147, 411, 412, 413, 414, 114, 415, 416, 417, 418, 453, 454, 455, 419, 420, 421, 422, 861, 862, 863, 864, 865, 866, 867, 868, 869, 870, 871, 872, 873, 874, 875, 876, 877, 878, 879, 880, 881, 882] (by decide +kernel) (by decide +kernel)
set_option maxRecDepth 20000 in
theorem gL_law_X11_walks : GoodIn wsL_law (wsV RL 47 RX11 yX11_walks wsX11_walks) := goodIn_app (goodIn_of _ (by decide +kernel)) ggL_law_X11_walks
set_option maxRecDepth 20000 in
theorem ggL_law_X10_keeps : GoodIn wsL_law wsX10_keeps := goodIn_r _ [459, 28, 300, 444, 432, 368, 369, 77, 370, 83, 371, 372, 373, 2, 374, 191, 375, 376, 377, 27, 378, 282, 79, 78, 379, 380, 381, 382, 383, 384, 385, 386, 287, 288, 289, 290, 84, 387, 275, 276, 277, 85, 86, 847, 848, 849, 850, 851, 852, 853, 854, 855, 856, 857, 858, 859, 860, 901, 902, 903, 921, 922, 923, 924, 925, 926, 927, 928] (by decide +kernel) (by decide +kernel)
set_option maxRecDepth 20000 in
theorem gL_law_X10_keeps : GoodIn wsL_law (wsV RL 48 RX10 yX10_keeps wsX10_keeps) := goodIn_app (goodIn_of _ (by decide +kernel)) ggL_law_X10_keeps
set_option maxRecDepth 20000 in
theorem ggL_law_X11_keeps : GoodIn wsL_law wsX11_keeps := goodIn_r _ [463, 116, 145, 146, 5, 147, 415, 416, 417, 418, 419, 420, 421, 422, 861, 862, 863, 864, 865, 866, 867, 868, 869, 870, 871, 872, 873, 874, 875, 876, 877, 878, 879, 880, 881, 882] (by decide +kernel) (by decide +kernel)
set_option maxRecDepth 20000 in
theorem gL_law_X11_keeps : GoodIn wsL_law (wsV RL 51 RX11 yX11_keeps wsX11_keeps) := goodIn_app (goodIn_of _ (by decide +kernel)) ggL_law_X11_keeps
set_option maxRecDepth 20000 in
theorem ggL_law_X10_does : GoodIn wsL_law wsX10_does := goodIn_r _ [467, 23, 28, 300, 468, 469, 333, 334, 335, 22, 336, 210, 470, 471, 472, 77, 473, 289, 474, 83, 84, 475, 287, 476, 477, 367, 368, 369, 370, 478, 338, 339, 340, 290, 371, 372, 373, 2, 374, 191, 375, 376, 377, 27, 378, 282, 79, 78, 379, 380, 381, 382, 383, 384, 385, 386, 288, 387, 275, 276, 277, 85, 86, 479, 480, 481, 482, 483, 484, 847, 848, 849, 850, 851, 852, 853, 854, 855, 856, 857, 858, 859, 860, 901, 902, 903, 921, 922, 923, 924, 925, 926, 927, 928, 891, 892, 893, 894, 895, 896, 897, 898, 899, 900] (by decide +kernel) (by decide +kernel)
set_option maxRecDepth 20000 in
theorem gL_law_X10_does : GoodIn wsL_law (wsV RL 52 RX10 yX10_does wsX10_does) := goodIn_app (goodIn_of _ (by decide +kernel)) ggL_law_X10_does
set_option maxRecDepth 20000 in
theorem ggL_law_X11_does : GoodIn wsL_law wsX11_does := goodIn_r _ [488, 116, 114, 345, 346, 347, 5, 348, 145, 146, 147, 415, 416, 417, 418, 411, 412, 413, 414, 349, 350, 351, 352, 353, 354, 355, 419, 420, 421, 422, 489, 490, 491, 492, 861, 862, 863, 864, 865, 866, 867, 868, 869, 870, 871, 872, 873, 874, 875, 876, 877, 878, 879, 880, 881, 882] (by decide +kernel) (by decide +kernel)
set_option maxRecDepth 20000 in
theorem gL_law_X11_does : GoodIn wsL_law (wsV RL 55 RX11 yX11_does wsX11_does) := goodIn_app (goodIn_of _ (by decide +kernel)) ggL_law_X11_does
set_option maxRecDepth 20000 in
theorem ggL_law_X10_undo : GoodIn wsL_law wsX10_undo := goodIn_r _ [496, 28, 497, 191, 498, 499, 500, 27, 501, 282, 78, 79, 383, 384, 385, 77, 386, 287, 83, 288, 289, 290, 84, 387, 275, 276, 277, 85, 86, 847, 848, 849, 850, 851, 852, 853, 854, 855, 856, 857, 858, 859, 860, 901, 902, 903, 921, 922, 923, 924, 925, 926, 927, 928] (by decide +kernel) (by decide +kernel)
set_option maxRecDepth 20000 in
theorem gL_law_X10_undo : GoodIn wsL_law (wsV RL 56 RX10 yX10_undo wsX10_undo) := goodIn_app (goodIn_of _ (by decide +kernel)) ggL_law_X10_undo
set_option maxRecDepth 20000 in
theorem ggL_law_X11_undo : GoodIn wsL_law wsX11_undo := goodIn_r _ [505, 116, 861, 862, 863, 864, 865, 866, 867, 868, 869, 870, 871, 872, 873, 874, 875, 876, 877, 878, 879, 880, 881, 882] (by decide +kernel) (by decide +kernel)
set_option maxRecDepth 20000 in
theorem gL_law_X11_undo : GoodIn wsL_law (wsV RL 59 RX11 yX11_undo wsX11_undo) := goodIn_app (goodIn_of _ (by decide +kernel)) ggL_law_X11_undo
set_option maxRecDepth 20000 in
theorem ggL_law_X10_now : GoodIn wsL_law wsX10_now := goodIn_r _ [509, 28, 300, 444, 360, 469, 468, 23, 510, 400, 401, 77, 402, 287, 288, 367, 368, 369, 370, 83, 479, 480, 481, 482, 483, 484, 478, 338, 339, 340, 290, 511, 512, 513, 514, 86, 847, 848, 849, 850, 851, 852, 853, 854, 855, 856, 857, 858, 859, 860, 901, 902, 903, 921, 922, 923, 924, 925, 926, 927, 928, 891, 892, 893, 894, 895, 896, 897, 898, 899, 900] (by decide +kernel) (by decide +kernel)
set_option maxRecDepth 20000 in
theorem gL_law_X10_now : GoodIn wsL_law (wsV RL 60 RX10 yX10_now wsX10_now) := goodIn_app (goodIn_of _ (by decide +kernel)) ggL_law_X10_now
set_option maxRecDepth 20000 in
theorem ggL_law_X11_now : GoodIn wsL_law wsX11_now := goodIn_r _ [518, 116, 415, 416, 417, 5, 418, 489, 490, 491, 492, 114, 349, 350, 351, 352, 353, 354, 355, 861, 862, 863, 864, 865, 866, 867, 868, 869, 870, 871, 872, 873, 874, 875, 876, 877, 878, 879, 880, 881, 882] (by decide +kernel) (by decide +kernel)
set_option maxRecDepth 20000 in
theorem gL_law_X11_now : GoodIn wsL_law (wsV RL 63 RX11 yX11_now wsX11_now) := goodIn_app (goodIn_of _ (by decide +kernel)) ggL_law_X11_now
