/-! the law's words -/
set_option maxRecDepth 20000 in
theorem ggL_law_X10_one : GoodIn wsL_law wsX10_one := goodIn_r _ [299, 23, 28, 300, 301, 302, 303, 304, 305, 306, 22, 307, 209, 308, 309, 310, 77, 311, 83, 287, 85, 847, 848, 849, 850, 851, 852, 853, 854, 855, 856, 857, 858, 859, 860, 901, 902, 903, 891, 892, 893, 894, 895, 896, 897, 898, 899, 900, 921, 922, 923, 924, 925, 926, 927, 928] (by decide +kernel) (by decide +kernel)
set_option maxRecDepth 20000 in
theorem gL_law_X10_one : GoodIn wsL_law (wsV RL 27 RX10 yX10_one wsX10_one) := goodIn_app (goodIn_of _ (by decide +kernel)) ggL_law_X10_one
set_option maxRecDepth 20000 in
theorem ggL_law_X11_one : GoodIn wsL_law wsX11_one := goodIn_r _ [315, 114, 116, 316, 317, 318, 5, 319, 145, 146, 147, 320, 321, 322, 323, 861, 862, 863, 864, 865, 866, 867, 868, 869, 870, 871, 872, 873, 874, 875, 876, 877, 878, 879, 880, 881, 882] (by decide +kernel) (by decide +kernel)
set_option maxRecDepth 20000 in
theorem gL_law_X11_one : GoodIn wsL_law (wsV RL 31 RX11 yX11_one wsX11_one) := goodIn_app (goodIn_of _ (by decide +kernel)) ggL_law_X11_one
set_option maxRecDepth 20000 in
theorem ggL_law_X10_deed : GoodIn wsL_law wsX10_deed := goodIn_r _ [327, 23, 328, 329, 330, 331, 332, 28, 300, 333, 334, 335, 22, 336, 210, 337, 338, 339, 77, 340, 290, 847, 848, 849, 850, 851, 852, 853, 854, 855, 856, 857, 858, 859, 860, 891, 892, 893, 894, 895, 896, 897, 898, 899, 900, 901, 902, 903, 921, 922, 923, 924, 925, 926, 927, 928] (by decide +kernel) (by decide +kernel)
set_option maxRecDepth 20000 in
theorem gL_law_X10_deed : GoodIn wsL_law (wsV RL 32 RX10 yX10_deed wsX10_deed) := goodIn_app (goodIn_of _ (by decide +kernel)) ggL_law_X10_deed
set_option maxRecDepth 20000 in
theorem ggL_law_X11_deed : GoodIn wsL_law wsX11_deed := goodIn_r _ [344, 114, 345, 346, 347, 5, 348, 145, 146, 147, 349, 350, 351, 352, 116, 353, 354, 355, 861, 862, 863, 864, 865, 866, 867, 868, 869, 870, 871, 872, 873, 874, 875, 876, 877, 878, 879, 880, 881, 882] (by decide +kernel) (by decide +kernel)
set_option maxRecDepth 20000 in
theorem gL_law_X11_deed : GoodIn wsL_law (wsV RL 35 RX11 yX11_deed wsX11_deed) := goodIn_app (goodIn_of _ (by decide +kernel)) ggL_law_X11_deed
set_option maxRecDepth 20000 in
theorem ggL_law_X10_lends : GoodIn wsL_law wsX10_lends := goodIn_r _ [359, 23, 28, 300, 360, 302, 361, 304, 305, 306, 22, 307, 209, 362, 363, 364, 77, 365, 84, 83, 366, 367, 368, 369, 370, 371, 372, 373, 2, 374, 191, 375, 376, 377, 27, 378, 282, 79, 78, 379, 380, 381, 382, 383, 384, 385, 386, 287, 288, 289, 290, 387, 275, 276, 277, 85, 86, 388, 389, 390, 391, 392, 393, 394, 395, 396, 397, 398, 399, 400, 401, 402, 403, 404, 405, 406, 847, 848, 849, 850, 851, 852, 853, 854, 855, 856, 857, 858, 859, 860, 901, 902, 903, 921, 922, 923, 924, 925, 926, 927, 928, 891, 892, 893, 894, 895, 896, 897, 898, 899, 900] (by decide +kernel) (by decide +kernel)
set_option maxRecDepth 20000 in
theorem gL_law_X10_lends : GoodIn wsL_law (wsV RL 36 RX10 yX10_lends wsX10_lends) := goodIn_app (goodIn_of _ (by decide +kernel)) ggL_law_X10_lends
set_option maxRecDepth 20000 in
theorem ggL_law_X11_lends : GoodIn wsL_law wsX11_lends := goodIn_r _ [410, 116, 316, 317, 318, 5, 319, 114, 145, 146, 147, 411, 412, 413, 414, 415, 416, 417, 418, 419, 420, 421, 422, 423, 424, 425, 426, 861, 862, 863, 864, 865, 866, 867, 868, 869, 870, 871, 872, 873, 874, 875, 876, 877, 878, 879, 880, 881, 882] (by decide +kernel) (by decide +kernel)
set_option maxRecDepth 20000 in
theorem gL_law_X11_lends : GoodIn wsL_law (wsV RL 39 RX11 yX11_lends wsX11_lends) := goodIn_app (goodIn_of _ (by decide +kernel)) ggL_law_X11_lends
set_option maxRecDepth 20000 in
theorem ggL_law_X10_brings : GoodIn wsL_law wsX10_brings := goodIn_r _ [430, 28, 300, 23, 431, 361, 432, 368, 369, 77, 370, 83, 362, 363, 364, 365, 84, 366, 367, 371, 372, 373, 2, 374, 191, 375, 376, 377, 27, 378, 282, 79, 78, 379, 380, 381, 382, 383, 384, 385, 386, 287, 288, 289, 290, 387, 275, 276, 277, 85, 86, 388, 389, 390, 391, 392, 393, 394, 395, 396, 397, 398, 399, 400, 401, 402, 847, 848, 849, 850, 851, 852, 853, 854, 855, 856, 857, 858, 859, 860, 901, 902, 903, 891, 892, 893, 894, 895, 896, 897, 898, 899, 900, 921, 922, 923, 924, 925, 926, 927, 928] (by decide +kernel) (by decide +kernel)
set_option maxRecDepth 20000 in
theorem gL_law_X10_brings : GoodIn wsL_law (wsV RL 40 RX10 yX10_brings wsX10_brings) := goodIn_app (goodIn_of _ (by decide +kernel)) ggL_law_X10_brings
set_option maxRecDepth 20000 in
theorem ggL_law_X11_brings : GoodIn wsL_law wsX11_brings := goodIn_r _ [436, 114, 116, 415, 416, 417, 5, 418, 411, 412, 413, 414, 419, 420, 421, 422, 423, 424, 425, 426, 861, 862, 863, 864, 865, 866, 867, 868, 869, 870, 871, 872, 873, 874, 875, 876, 877, 878, 879, 880, 881, 882] (by decide +kernel) (by decide +kernel)
set_option maxRecDepth 20000 in
theorem gL_law_X11_brings : GoodIn wsL_law (wsV RL 43 RX11 yX11_brings wsX11_brings) := goodIn_app (goodIn_of _ (by decide +kernel)) ggL_law_X11_brings
set_option maxRecDepth 20000 in
theorem ggL_law_X10_walks : GoodIn wsL_law wsX10_walks := goodIn_r _ [440, 28, 300, 23, 441, 442, 394, 443, 444, 362, 363, 364, 77, 365, 84, 83, 366, 367, 368, 369, 370, 432, 371, 372, 373, 2, 374, 191, 375, 376, 377, 27, 378, 282, 79, 78, 379, 380, 381, 382, 383, 384, 385, 386, 287, 288, 289, 290, 387, 275, 276, 277, 85, 86, 445, 446, 447, 448, 847, 848, 849, 850, 851, 852, 853, 854, 855, 856, 857, 858, 859, 860, 901, 902, 903, 921, 922, 923, 924, 925, 926, 927, 928, 891, 892, 893, 894, 895, 896, 897, 898, 899, 900] (by decide +kernel) (by decide +kernel)
set_option maxRecDepth 20000 in
theorem gL_law_X10_walks : GoodIn wsL_law (wsV RL 44 RX10 yX10_walks wsX10_walks) := goodIn_app (goodIn_of _ (by decide +kernel)) ggL_law_X10_walks
