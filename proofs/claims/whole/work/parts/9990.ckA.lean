set_option maxRecDepth 100000 in
theorem ck0 : chkT 0 = true := by decide +kernel
set_option maxRecDepth 100000 in
theorem ck1 : chkT 1 = true := by decide +kernel
set_option maxRecDepth 100000 in
theorem ck2 : chkT 2 = true := by decide +kernel
set_option maxRecDepth 100000 in
theorem ck3 : chkT 3 = true := by decide +kernel
set_option maxRecDepth 100000 in
theorem ck4 : chkT 4 = true := by decide +kernel
set_option maxRecDepth 100000 in
theorem ck5 : chkT 5 = true := by decide +kernel
set_option maxRecDepth 100000 in
theorem ck6 : chkT 6 = true := by decide +kernel
set_option maxRecDepth 100000 in
theorem ck7 : chkT 7 = true := by decide +kernel
set_option maxRecDepth 100000 in
theorem ck8 : chkT 8 = true := by decide +kernel
set_option maxRecDepth 100000 in
theorem ck9 : chkT 9 = true := by decide +kernel
set_option maxRecDepth 100000 in
theorem ck10 : chkT 10 = true := by decide +kernel
set_option maxRecDepth 100000 in
theorem ck11 : chkT 11 = true := by decide +kernel
set_option maxRecDepth 100000 in
theorem ck12 : chkT 12 = true := by decide +kernel
set_option maxRecDepth 100000 in
theorem ck13 : chkT 13 = true := by decide +kernel
set_option maxRecDepth 100000 in
theorem ck14 : chkT 14 = true := by decide +kernel
set_option maxRecDepth 100000 in
theorem ck15 : chkT 15 = true := by decide +kernel
set_option maxRecDepth 100000 in
theorem ck16 : chkT 16 = true := by decide +kernel
set_option maxRecDepth 100000 in
theorem ck17 : chkT 17 = true := by decide +kernel
set_option maxRecDepth 100000 in
theorem ck18 : chkT 18 = true := by decide +kernel
set_option maxRecDepth 100000 in
theorem ck19 : chkT 19 = true := by decide +kernel
set_option maxRecDepth 100000 in
theorem ck20 : chkT 20 = true := by decide +kernel
set_option maxRecDepth 100000 in
theorem ck21 : chkT 21 = true := by decide +kernel
set_option maxRecDepth 100000 in
theorem ck22 : chkT 22 = true := by decide +kernel
set_option maxRecDepth 100000 in
theorem ck23 : chkT 23 = true := by decide +kernel
set_option maxRecDepth 100000 in
theorem ck24 : chkT 24 = true := by decide +kernel
set_option maxRecDepth 100000 in
theorem ck25 : chkT 25 = true := by decide +kernel
set_option maxRecDepth 100000 in
theorem ck26 : chkT 26 = true := by decide +kernel
set_option maxRecDepth 100000 in
theorem ck27 : chkT 27 = true := by decide +kernel
set_option maxRecDepth 100000 in
theorem ck28 : chkT 28 = true := by decide +kernel
set_option maxRecDepth 100000 in
theorem ck29 : chkT 29 = true := by decide +kernel
set_option maxRecDepth 100000 in
theorem ck30 : chkT 30 = true := by decide +kernel
set_option maxRecDepth 100000 in
theorem ck31 : chkT 31 = true := by decide +kernel
set_option maxRecDepth 100000 in
theorem ck32 : chkT 32 = true := by decide +kernel
set_option maxRecDepth 100000 in
theorem ck33 : chkT 33 = true := by decide +kernel
set_option maxRecDepth 100000 in
theorem ck34 : chkT 34 = true := by decide +kernel
set_option maxRecDepth 100000 in
theorem ck35 : chkT 35 = true := by decide +kernel
set_option maxRecDepth 100000 in
theorem ck36 : chkT 36 = true := by decide +kernel
set_option maxRecDepth 100000 in
theorem ck37 : chkT 37 = true := by decide +kernel
set_option maxRecDepth 100000 in
theorem ck38 : chkT 38 = true := by decide +kernel
set_option maxRecDepth 100000 in
theorem ck39 : chkT 39 = true := by decide +kernel
set_option maxRecDepth 100000 in
theorem ck40 : chkT 40 = true := by decide +kernel
set_option maxRecDepth 100000 in
theorem ck41 : chkT 41 = true := by decide +kernel
set_option maxRecDepth 100000 in
theorem ck42 : chkT 42 = true := by decide +kernel
set_option maxRecDepth 100000 in
theorem ck43 : chkT 43 = true := by decide +kernel
set_option maxRecDepth 100000 in
theorem ck44 : chkT 44 = true := by decide +kernel
set_option maxRecDepth 100000 in
theorem ck45 : chkT 45 = true := by decide +kernel
set_option maxRecDepth 100000 in
theorem ck46 : chkT 46 = true := by decide +kernel
set_option maxRecDepth 100000 in
theorem ck47 : chkT 47 = true := by decide +kernel
set_option maxRecDepth 100000 in
theorem ck48 : chkT 48 = true := by decide +kernel
set_option maxRecDepth 100000 in
theorem ck49 : chkT 49 = true := by decide +kernel
set_option maxRecDepth 100000 in
theorem ck50 : chkT 50 = true := by decide +kernel
set_option maxRecDepth 100000 in
theorem ck51 : chkT 51 = true := by decide +kernel
set_option maxRecDepth 100000 in
theorem ck52 : chkT 52 = true := by decide +kernel
set_option maxRecDepth 100000 in
theorem ck53 : chkT 53 = true := by decide +kernel
set_option maxRecDepth 100000 in
theorem ck54 : chkT 54 = true := by decide +kernel
set_option maxRecDepth 100000 in
theorem ck55 : chkT 55 = true := by decide +kernel
set_option maxRecDepth 100000 in
theorem ck56 : chkT 56 = true := by decide +kernel
set_option maxRecDepth 100000 in
theorem ck57 : chkT 57 = true := by decide +kernel
set_option maxRecDepth 100000 in
theorem ck58 : chkT 58 = true := by decide +kernel
set_option maxRecDepth 100000 in
theorem ck59 : chkT 59 = true := by decide +kernel
set_option maxRecDepth 100000 in
theorem ck60 : chkT 60 = true := by decide +kernel
set_option maxRecDepth 100000 in
theorem ck61 : chkT 61 = true := by decide +kernel
set_option maxRecDepth 100000 in
theorem ck62 : chkT 62 = true := by decide +kernel
set_option maxRecDepth 100000 in
theorem ck63 : chkT 63 = true := by decide +kernel
set_option maxRecDepth 100000 in
theorem ck64 : chkT 64 = true := by decide +kernel
set_option maxRecDepth 100000 in
theorem ck65 : chkT 65 = true := by decide +kernel
set_option maxRecDepth 100000 in
theorem ck66 : chkT 66 = true := by decide +kernel
set_option maxRecDepth 100000 in
theorem ck67 : chkT 67 = true := by decide +kernel
set_option maxRecDepth 100000 in
theorem ck68 : chkT 68 = true := by decide +kernel
set_option maxRecDepth 100000 in
theorem ck69 : chkT 69 = true := by decide +kernel
set_option maxRecDepth 100000 in
theorem ck70 : chkT 70 = true := by decide +kernel
set_option maxRecDepth 100000 in
theorem ck71 : chkT 71 = true := by decide +kernel
set_option maxRecDepth 100000 in
theorem ck72 : chkT 72 = true := by decide +kernel
set_option maxRecDepth 100000 in
theorem ck73 : chkT 73 = true := by decide +kernel
set_option maxRecDepth 100000 in
theorem ck74 : chkT 74 = true := by decide +kernel
set_option maxRecDepth 100000 in
theorem ck75 : chkT 75 = true := by decide +kernel
set_option maxRecDepth 100000 in
theorem ck76 : chkT 76 = true := by decide +kernel
set_option maxRecDepth 100000 in
theorem ck77 : chkT 77 = true := by decide +kernel
set_option maxRecDepth 100000 in
theorem ck78 : chkT 78 = true := by decide +kernel
set_option maxRecDepth 100000 in
theorem ck79 : chkT 79 = true := by decide +kernel
set_option maxRecDepth 100000 in
theorem ck80 : chkT 80 = true := by decide +kernel
set_option maxRecDepth 100000 in
theorem ck81 : chkT 81 = true := by decide +kernel
set_option maxRecDepth 100000 in
theorem ck82 : chkT 82 = true := by decide +kernel
set_option maxRecDepth 100000 in
theorem ck83 : chkT 83 = true := by decide +kernel
set_option maxRecDepth 100000 in
theorem ck84 : chkT 84 = true := by decide +kernel
set_option maxRecDepth 100000 in
theorem ck85 : chkT 85 = true := by decide +kernel
set_option maxRecDepth 100000 in
theorem ck86 : chkT 86 = true := by decide +kernel
set_option maxRecDepth 100000 in
theorem ck87 : chkT 87 = true := by decide +kernel
set_option maxRecDepth 100000 in
theorem ck88 : chkT 88 = true := by decide +kernel
set_option maxRecDepth 100000 in
theorem ck89 : chkT 89 = true := by decide +kernel
set_option maxRecDepth 100000 in
theorem ck90 : chkT 90 = true := by decide +kernel
set_option maxRecDepth 100000 in
theorem ck91 : chkT 91 = true := by decide +kernel
set_option maxRecDepth 100000 in
theorem ck92 : chkT 92 = true := by decide +kernel
set_option maxRecDepth 100000 in
theorem ck93 : chkT 93 = true := by decide +kernel
set_option maxRecDepth 100000 in
theorem ck94 : chkT 94 = true := by decide +kernel
set_option maxRecDepth 100000 in
theorem ck95 : chkT 95 = true := by decide +kernel
set_option maxRecDepth 100000 in
theorem ck96 : chkT 96 = true := by decide +kernel
set_option maxRecDepth 100000 in
theorem ck97 : chkT 97 = true := by decide +kernel
set_option maxRecDepth 100000 in
theorem ck98 : chkT 98 = true := by decide +kernel
set_option maxRecDepth 100000 in
theorem ck99 : chkT 99 = true := by decide +kernel
set_option maxRecDepth 100000 in
theorem ck100 : chkT 100 = true := by decide +kernel
set_option maxRecDepth 100000 in
theorem ck101 : chkT 101 = true := by decide +kernel
set_option maxRecDepth 100000 in
theorem ck102 : chkT 102 = true := by decide +kernel
set_option maxRecDepth 100000 in
theorem ck103 : chkT 103 = true := by decide +kernel
set_option maxRecDepth 100000 in
theorem ck104 : chkT 104 = true := by decide +kernel
set_option maxRecDepth 100000 in
theorem ck105 : chkT 105 = true := by decide +kernel
set_option maxRecDepth 100000 in
theorem ck106 : chkT 106 = true := by decide +kernel
set_option maxRecDepth 100000 in
theorem ck107 : chkT 107 = true := by decide +kernel
set_option maxRecDepth 100000 in
theorem ck108 : chkT 108 = true := by decide +kernel
set_option maxRecDepth 100000 in
theorem ck109 : chkT 109 = true := by decide +kernel
set_option maxRecDepth 100000 in
theorem ck110 : chkT 110 = true := by decide +kernel
set_option maxRecDepth 100000 in
theorem ck111 : chkT 111 = true := by decide +kernel
set_option maxRecDepth 100000 in
theorem ck112 : chkT 112 = true := by decide +kernel
set_option maxRecDepth 100000 in
theorem ck113 : chkT 113 = true := by decide +kernel
set_option maxRecDepth 100000 in
theorem ck114 : chkT 114 = true := by decide +kernel
set_option maxRecDepth 100000 in
theorem ck115 : chkT 115 = true := by decide +kernel
set_option maxRecDepth 100000 in
theorem ck116 : chkT 116 = true := by decide +kernel
set_option maxRecDepth 100000 in
theorem ck117 : chkT 117 = true := by decide +kernel
set_option maxRecDepth 100000 in
theorem ck118 : chkT 118 = true := by decide +kernel
set_option maxRecDepth 100000 in
theorem ck119 : chkT 119 = true := by decide +kernel
