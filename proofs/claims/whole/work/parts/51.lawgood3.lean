/-! the law's words -/
set_option maxRecDepth 20000 in
theorem ggL_law_X10_round : GoodIn wsL_law wsX10_round := goodIn_r _ [522, 191, 43, 23, 28, 300, 39, 523, 524, 525, 526, 527, 528, 529, 42, 530, 531, 532, 533, 534, 535, 536, 537, 38, 538, 539, 95, 540, 275, 276, 277, 541, 542, 543, 544, 545, 546, 547, 363, 364, 77, 365, 84, 83, 366, 367, 368, 369, 370, 548, 549, 550, 551, 483, 290, 552, 553, 554, 555, 556, 557, 558, 559, 560, 561, 100, 562, 563, 564, 565, 566, 99, 567, 568, 569, 570, 571, 572, 573, 442, 394, 443, 574, 575, 393, 395, 576, 577, 578, 579, 580, 581, 582, 583, 584, 585, 586, 587, 588, 589, 590, 847, 848, 849, 850, 851, 852, 853, 854, 855, 856, 857, 858, 859, 860, 901, 902, 903, 911, 912, 913, 914, 915, 921, 922, 923, 924, 925, 926, 927, 928, 907, 908, 909, 910, 891, 892, 893, 894, 895, 896, 897, 898, 899, 900] (by decide +kernel) (by decide +kernel)
set_option maxRecDepth 20000 in
theorem gL_law_X10_round : GoodIn wsL_law (wsV RL 64 RX10 yX10_round wsX10_round) := goodIn_app (goodIn_of _ (by decide +kernel)) ggL_law_X10_round
set_option maxRecDepth 20000 in
theorem ggL_law_X11_round : GoodIn wsL_law wsX11_round := goodIn_r _ [594, 595, 596, 597, 122, 145, 146, 5, 147, 598, 599, 600, 601, 116, 114, 121, 602, 603, 604, 605, 349, 350, 351, 352, 353, 354, 355, 606, 607, 608, 609, 123, 411, 412, 413, 414, 415, 416, 417, 418, 453, 454, 455, 610, 611, 612, 613, 861, 862, 863, 864, 865, 866, 867, 868, 869, 870, 871, 872, 873, 874, 875, 876, 877, 878, 879, 880, 881, 882] (by decide +kernel) (by decide +kernel)
set_option maxRecDepth 20000 in
theorem gL_law_X11_round : GoodIn wsL_law (wsV RL 67 RX11 yX11_round wsX11_round) := goodIn_app (goodIn_of _ (by decide +kernel)) ggL_law_X11_round
set_option maxRecDepth 20000 in
theorem ggL_law_X10_spoons : GoodIn wsL_law wsX10_spoons := goodIn_r _ [617, 47, 23, 618, 619, 620, 46, 621, 622, 623, 104, 624, 625, 626, 627, 628, 629, 630, 442, 394, 443, 631, 632, 633, 634, 635, 636, 637, 638, 639, 847, 848, 849, 850, 851, 852, 853, 854, 855, 856, 857, 858, 859, 860, 891, 892, 893, 894, 895, 896, 897, 898, 899, 900, 916, 917] (by decide +kernel) (by decide +kernel)
set_option maxRecDepth 20000 in
theorem gL_law_X10_spoons : GoodIn wsL_law (wsV RL 68 RX10 yX10_spoons wsX10_spoons) := goodIn_app (goodIn_of _ (by decide +kernel)) ggL_law_X10_spoons
set_option maxRecDepth 20000 in
theorem ggL_law_X11_spoons : GoodIn wsL_law wsX11_spoons := goodIn_r _ [643, 114, 124, 644, 645, 646, 5, 647, 453, 454, 455, 353, 354, 355, 861, 862, 863, 864, 865, 866, 867, 868, 869, 870, 871, 872, 873, 874, 875, 876, 877, 878, 879, 880, 881, 882] (by decide +kernel) (by decide +kernel)
set_option maxRecDepth 20000 in
theorem gL_law_X11_spoons : GoodIn wsL_law (wsV RL 71 RX11 yX11_spoons wsX11_spoons) := goodIn_app (goodIn_of _ (by decide +kernel)) ggL_law_X11_spoons
set_option maxRecDepth 20000 in
theorem ggL_law_X10_drawn : GoodIn wsL_law wsX10_drawn := goodIn_r _ [651, 652, 23, 653, 39, 28, 300, 654, 332, 655, 536, 537, 38, 538, 539, 95, 540, 275, 276, 277, 541, 542, 543, 544, 545, 546, 547, 363, 364, 77, 365, 84, 83, 366, 367, 368, 369, 370, 656, 549, 550, 551, 483, 290, 657, 578, 579, 580, 581, 582, 442, 394, 443, 583, 584, 585, 393, 395, 586, 658, 588, 589, 590, 847, 848, 849, 850, 851, 852, 853, 854, 855, 856, 857, 858, 859, 860, 891, 892, 893, 894, 895, 896, 897, 898, 899, 900, 901, 902, 903, 921, 922, 923, 924, 925, 926, 927, 928, 907, 908, 909, 910] (by decide +kernel) (by decide +kernel)
set_option maxRecDepth 20000 in
theorem gL_law_X10_drawn : GoodIn wsL_law (wsV RL 72 RX10 yX10_drawn wsX10_drawn) := goodIn_app (goodIn_of _ (by decide +kernel)) ggL_law_X10_drawn
set_option maxRecDepth 20000 in
theorem ggL_law_X11_drawn : GoodIn wsL_law wsX11_drawn := goodIn_r _ [662, 663, 114, 664, 665, 666, 145, 146, 5, 147, 602, 603, 604, 605, 121, 349, 350, 351, 352, 116, 353, 354, 355, 606, 607, 608, 609, 123, 411, 412, 413, 414, 415, 416, 417, 418, 453, 454, 455, 610, 611, 612, 613, 861, 862, 863, 864, 865, 866, 867, 868, 869, 870, 871, 872, 873, 874, 875, 876, 877, 878, 879, 880, 881, 882] (by decide +kernel) (by decide +kernel)
set_option maxRecDepth 20000 in
theorem gL_law_X11_drawn : GoodIn wsL_law (wsV RL 75 RX11 yX11_drawn wsX11_drawn) := goodIn_app (goodIn_of _ (by decide +kernel)) ggL_law_X11_drawn
set_option maxRecDepth 20000 in
theorem ggL_law_X10_odds : GoodIn wsL_law wsX10_odds := goodIn_r _ [670, 28, 300, 23, 51, 671, 672, 656, 549, 550, 77, 551, 483, 290, 673, 674, 675, 676, 677, 678, 679, 680, 681, 682, 50, 683, 684, 108, 685, 686, 687, 688, 689, 690, 691, 692, 693, 847, 848, 849, 850, 851, 852, 853, 854, 855, 856, 857, 858, 859, 860, 901, 902, 903, 918, 919, 920, 891, 892, 893, 894, 895, 896, 897, 898, 899, 900, 921, 922, 923, 924, 925, 926, 927, 928] (by decide +kernel) (by decide +kernel)
set_option maxRecDepth 20000 in
theorem gL_law_X10_odds : GoodIn wsL_law (wsV RL 76 RX10 yX10_odds wsX10_odds) := goodIn_app (goodIn_of _ (by decide +kernel)) ggL_law_X10_odds
set_option maxRecDepth 20000 in
theorem ggL_law_X11_odds : GoodIn wsL_law wsX11_odds := goodIn_r _ [697, 114, 145, 146, 5, 147, 349, 350, 351, 352, 116, 353, 354, 355, 861, 862, 863, 864, 865, 866, 867, 868, 869, 870, 871, 872, 873, 874, 875, 876, 877, 878, 879, 880, 881, 882] (by decide +kernel) (by decide +kernel)
set_option maxRecDepth 20000 in
theorem gL_law_X11_odds : GoodIn wsL_law (wsV RL 80 RX11 yX11_odds wsX11_odds) := goodIn_app (goodIn_of _ (by decide +kernel)) ggL_law_X11_odds
