/-! the world as it stands once both objects are made -/
theorem is0 : mf_is 319 0 11 := ⟨by decide, by decide, by decide +kernel⟩
theorem is1 : mf_is 319 1 10 := ⟨by decide, by decide, by decide +kernel⟩
theorem is2 : mf_is 319 2 20 := ⟨by decide, by decide, by decide +kernel⟩
theorem len2 : mf_len 2 = 34 := by decide +kernel
theorem is3 : mf_is 319 3 8 := ⟨by decide, by decide, by decide +kernel⟩
theorem is4 : mf_is 319 4 21 := ⟨by decide, by decide, by decide +kernel⟩
theorem len4 : mf_len 4 = 1600 := by decide +kernel
theorem is5 : mf_is 319 5 9 := ⟨by decide, by decide, by decide +kernel⟩
theorem is6 : mf_is 319 6 4 := ⟨by decide, by decide, by decide +kernel⟩
theorem is7 : mf_is 319 7 20 := ⟨by decide, by decide, by decide +kernel⟩
theorem len7 : mf_len 7 = 1600 := by decide +kernel
theorem is8 : mf_is 319 8 20 := ⟨by decide, by decide, by decide +kernel⟩
theorem len8 : mf_len 8 = 4 := by decide +kernel
theorem is9 : mf_is 319 9 20 := ⟨by decide, by decide, by decide +kernel⟩
theorem len9 : mf_len 9 = 4 := by decide +kernel
theorem is10 : mf_is 319 10 7 := ⟨by decide, by decide, by decide +kernel⟩
theorem is11 : mf_is 319 11 1 := ⟨by decide, by decide, by decide +kernel⟩
theorem is12 : mf_is 319 12 20 := ⟨by decide, by decide, by decide +kernel⟩
theorem len12 : mf_len 12 = 12 := by decide +kernel
theorem is13 : mf_is 319 13 20 := ⟨by decide, by decide, by decide +kernel⟩
theorem len13 : mf_len 13 = 12 := by decide +kernel
theorem is14 : mf_is 319 14 20 := ⟨by decide, by decide, by decide +kernel⟩
theorem len14 : mf_len 14 = 12 := by decide +kernel
theorem is15 : mf_is 319 15 20 := ⟨by decide, by decide, by decide +kernel⟩
theorem len15 : mf_len 15 = 8 := by decide +kernel
theorem is16 : mf_is 319 16 20 := ⟨by decide, by decide, by decide +kernel⟩
theorem len16 : mf_len 16 = 8 := by decide +kernel
theorem is17 : mf_is 319 17 4 := ⟨by decide, by decide, by decide +kernel⟩
theorem is18 : mf_is 319 18 20 := ⟨by decide, by decide, by decide +kernel⟩
theorem len18 : mf_len 18 = 1600 := by decide +kernel
theorem is19 : mf_is 319 19 20 := ⟨by decide, by decide, by decide +kernel⟩
theorem len19 : mf_len 19 = 4 := by decide +kernel
theorem is20 : mf_is 319 20 20 := ⟨by decide, by decide, by decide +kernel⟩
theorem len20 : mf_len 20 = 4 := by decide +kernel
theorem is21 : mf_is 319 21 6 := ⟨by decide, by decide, by decide +kernel⟩
theorem is22 : mf_is 319 22 20 := ⟨by decide, by decide, by decide +kernel⟩
theorem len22 : mf_len 22 = 6 := by decide +kernel
theorem is23 : mf_is 319 23 20 := ⟨by decide, by decide, by decide +kernel⟩
theorem len23 : mf_len 23 = 8 := by decide +kernel
theorem is24 : mf_is 319 24 20 := ⟨by decide, by decide, by decide +kernel⟩
theorem len24 : mf_len 24 = 8 := by decide +kernel
theorem is25 : mf_is 319 25 20 := ⟨by decide, by decide, by decide +kernel⟩
theorem len25 : mf_len 25 = 8 := by decide +kernel
theorem is26 : mf_is 319 26 20 := ⟨by decide, by decide, by decide +kernel⟩
theorem len26 : mf_len 26 = 8 := by decide +kernel
theorem is27 : mf_is 319 27 20 := ⟨by decide, by decide, by decide +kernel⟩
theorem len27 : mf_len 27 = 40 := by decide +kernel
theorem is28 : mf_is 319 28 1 := ⟨by decide, by decide, by decide +kernel⟩
theorem is29 : mf_is 319 29 20 := ⟨by decide, by decide, by decide +kernel⟩
theorem len29 : mf_len 29 = 12 := by decide +kernel
theorem is30 : mf_is 319 30 20 := ⟨by decide, by decide, by decide +kernel⟩
theorem len30 : mf_len 30 = 12 := by decide +kernel
theorem is31 : mf_is 319 31 20 := ⟨by decide, by decide, by decide +kernel⟩
theorem len31 : mf_len 31 = 12 := by decide +kernel
theorem is32 : mf_is 319 32 20 := ⟨by decide, by decide, by decide +kernel⟩
theorem len32 : mf_len 32 = 8 := by decide +kernel
theorem is33 : mf_is 319 33 20 := ⟨by decide, by decide, by decide +kernel⟩
theorem len33 : mf_len 33 = 8 := by decide +kernel
theorem is34 : mf_is 319 34 4 := ⟨by decide, by decide, by decide +kernel⟩
theorem is35 : mf_is 319 35 20 := ⟨by decide, by decide, by decide +kernel⟩
theorem len35 : mf_len 35 = 1600 := by decide +kernel
theorem is36 : mf_is 319 36 20 := ⟨by decide, by decide, by decide +kernel⟩
theorem len36 : mf_len 36 = 4 := by decide +kernel
theorem is37 : mf_is 319 37 20 := ⟨by decide, by decide, by decide +kernel⟩
theorem len37 : mf_len 37 = 4 := by decide +kernel
theorem is38 : mf_is 319 38 6 := ⟨by decide, by decide, by decide +kernel⟩
theorem is39 : mf_is 319 39 20 := ⟨by decide, by decide, by decide +kernel⟩
theorem len39 : mf_len 39 = 6 := by decide +kernel
theorem is40 : mf_is 319 40 20 := ⟨by decide, by decide, by decide +kernel⟩
theorem len40 : mf_len 40 = 8 := by decide +kernel
theorem is41 : mf_is 319 41 20 := ⟨by decide, by decide, by decide +kernel⟩
theorem len41 : mf_len 41 = 8 := by decide +kernel
theorem is42 : mf_is 319 42 20 := ⟨by decide, by decide, by decide +kernel⟩
theorem len42 : mf_len 42 = 8 := by decide +kernel
theorem is43 : mf_is 319 43 20 := ⟨by decide, by decide, by decide +kernel⟩
theorem len43 : mf_len 43 = 8 := by decide +kernel
theorem is44 : mf_is 319 44 20 := ⟨by decide, by decide, by decide +kernel⟩
theorem len44 : mf_len 44 = 40 := by decide +kernel
theorem is45 : mf_is 319 45 2 := ⟨by decide, by decide, by decide +kernel⟩
theorem is46 : mf_is 319 46 0 := ⟨by decide, by decide, by decide +kernel⟩
theorem is47 : mf_is 319 47 3 := ⟨by decide, by decide, by decide +kernel⟩
theorem is48 : mf_is 319 48 20 := ⟨by decide, by decide, by decide +kernel⟩
theorem len48 : mf_len 48 = 9 := by decide +kernel
theorem is49 : mf_is 319 49 22 := ⟨by decide, by decide, by decide +kernel⟩
theorem len49 : mf_len 49 = 8 := by decide +kernel
theorem is50 : mf_is 319 50 20 := ⟨by decide, by decide, by decide +kernel⟩
theorem len50 : mf_len 50 = 64 := by decide +kernel
theorem is51 : mf_is 319 51 5 := ⟨by decide, by decide, by decide +kernel⟩
theorem is52 : mf_is 319 52 25 := ⟨by decide, by decide, by decide +kernel⟩
theorem len52 : mf_len 52 = 3 := by decide +kernel
theorem is53 : mf_is 319 53 6 := ⟨by decide, by decide, by decide +kernel⟩
theorem is54 : mf_is 319 54 20 := ⟨by decide, by decide, by decide +kernel⟩
theorem len54 : mf_len 54 = 6 := by decide +kernel
theorem is55 : mf_is 319 55 20 := ⟨by decide, by decide, by decide +kernel⟩
theorem len55 : mf_len 55 = 8 := by decide +kernel
theorem is56 : mf_is 319 56 20 := ⟨by decide, by decide, by decide +kernel⟩
theorem len56 : mf_len 56 = 8 := by decide +kernel
theorem is57 : mf_is 319 57 20 := ⟨by decide, by decide, by decide +kernel⟩
theorem len57 : mf_len 57 = 8 := by decide +kernel
theorem is58 : mf_is 319 58 20 := ⟨by decide, by decide, by decide +kernel⟩
theorem len58 : mf_len 58 = 8 := by decide +kernel
theorem is59 : mf_is 319 59 20 := ⟨by decide, by decide, by decide +kernel⟩
theorem len59 : mf_len 59 = 40 := by decide +kernel
theorem is60 : mf_is 319 60 20 := ⟨by decide, by decide, by decide +kernel⟩
theorem len60 : mf_len 60 = 3 := by decide +kernel
theorem is61 : mf_is 319 61 20 := ⟨by decide, by decide, by decide +kernel⟩
theorem len61 : mf_len 61 = 3 := by decide +kernel
theorem is62 : mf_is 319 62 20 := ⟨by decide, by decide, by decide +kernel⟩
theorem len62 : mf_len 62 = 6 := by decide +kernel
theorem is63 : mf_is 319 63 20 := ⟨by decide, by decide, by decide +kernel⟩
theorem len63 : mf_len 63 = 6 := by decide +kernel
theorem is64 : mf_is 319 64 20 := ⟨by decide, by decide, by decide +kernel⟩
theorem len64 : mf_len 64 = 56 := by decide +kernel
theorem is65 : mf_is 319 65 20 := ⟨by decide, by decide, by decide +kernel⟩
theorem len65 : mf_len 65 = 16 := by decide +kernel
theorem is66 : mf_is 319 66 20 := ⟨by decide, by decide, by decide +kernel⟩
theorem len66 : mf_len 66 = 16 := by decide +kernel
theorem is67 : mf_is 319 67 6 := ⟨by decide, by decide, by decide +kernel⟩
theorem is68 : mf_is 319 68 20 := ⟨by decide, by decide, by decide +kernel⟩
theorem len68 : mf_len 68 = 6 := by decide +kernel
theorem is69 : mf_is 319 69 20 := ⟨by decide, by decide, by decide +kernel⟩
theorem len69 : mf_len 69 = 8 := by decide +kernel
theorem is70 : mf_is 319 70 20 := ⟨by decide, by decide, by decide +kernel⟩
theorem len70 : mf_len 70 = 8 := by decide +kernel
theorem is71 : mf_is 319 71 20 := ⟨by decide, by decide, by decide +kernel⟩
theorem len71 : mf_len 71 = 8 := by decide +kernel
theorem is72 : mf_is 319 72 20 := ⟨by decide, by decide, by decide +kernel⟩
theorem len72 : mf_len 72 = 8 := by decide +kernel
theorem is73 : mf_is 319 73 20 := ⟨by decide, by decide, by decide +kernel⟩
theorem len73 : mf_len 73 = 40 := by decide +kernel
theorem is74 : mf_is 319 74 6 := ⟨by decide, by decide, by decide +kernel⟩
theorem is75 : mf_is 319 75 20 := ⟨by decide, by decide, by decide +kernel⟩
theorem len75 : mf_len 75 = 6 := by decide +kernel
theorem is76 : mf_is 319 76 20 := ⟨by decide, by decide, by decide +kernel⟩
theorem len76 : mf_len 76 = 8 := by decide +kernel
theorem is77 : mf_is 319 77 20 := ⟨by decide, by decide, by decide +kernel⟩
theorem len77 : mf_len 77 = 8 := by decide +kernel
theorem is78 : mf_is 319 78 20 := ⟨by decide, by decide, by decide +kernel⟩
theorem len78 : mf_len 78 = 8 := by decide +kernel
theorem is79 : mf_is 319 79 20 := ⟨by decide, by decide, by decide +kernel⟩
theorem len79 : mf_len 79 = 8 := by decide +kernel
theorem is80 : mf_is 319 80 20 := ⟨by decide, by decide, by decide +kernel⟩
theorem len80 : mf_len 80 = 40 := by decide +kernel
theorem is81 : mf_is 319 81 6 := ⟨by decide, by decide, by decide +kernel⟩
theorem is82 : mf_is 319 82 20 := ⟨by decide, by decide, by decide +kernel⟩
theorem len82 : mf_len 82 = 6 := by decide +kernel
theorem is83 : mf_is 319 83 20 := ⟨by decide, by decide, by decide +kernel⟩
theorem len83 : mf_len 83 = 8 := by decide +kernel
theorem is84 : mf_is 319 84 20 := ⟨by decide, by decide, by decide +kernel⟩
theorem len84 : mf_len 84 = 8 := by decide +kernel
theorem is85 : mf_is 319 85 20 := ⟨by decide, by decide, by decide +kernel⟩
theorem len85 : mf_len 85 = 8 := by decide +kernel
theorem is86 : mf_is 319 86 20 := ⟨by decide, by decide, by decide +kernel⟩
theorem len86 : mf_len 86 = 8 := by decide +kernel
theorem is87 : mf_is 319 87 20 := ⟨by decide, by decide, by decide +kernel⟩
theorem len87 : mf_len 87 = 40 := by decide +kernel
theorem is88 : mf_is 319 88 6 := ⟨by decide, by decide, by decide +kernel⟩
theorem is89 : mf_is 319 89 20 := ⟨by decide, by decide, by decide +kernel⟩
theorem len89 : mf_len 89 = 6 := by decide +kernel
theorem is90 : mf_is 319 90 20 := ⟨by decide, by decide, by decide +kernel⟩
theorem len90 : mf_len 90 = 8 := by decide +kernel
theorem is91 : mf_is 319 91 20 := ⟨by decide, by decide, by decide +kernel⟩
theorem len91 : mf_len 91 = 8 := by decide +kernel
theorem is92 : mf_is 319 92 20 := ⟨by decide, by decide, by decide +kernel⟩
theorem len92 : mf_len 92 = 8 := by decide +kernel
theorem is93 : mf_is 319 93 20 := ⟨by decide, by decide, by decide +kernel⟩
theorem len93 : mf_len 93 = 8 := by decide +kernel
theorem is94 : mf_is 319 94 20 := ⟨by decide, by decide, by decide +kernel⟩
theorem len94 : mf_len 94 = 40 := by decide +kernel
theorem is95 : mf_is 319 95 6 := ⟨by decide, by decide, by decide +kernel⟩
theorem is96 : mf_is 319 96 20 := ⟨by decide, by decide, by decide +kernel⟩
theorem len96 : mf_len 96 = 6 := by decide +kernel
theorem is97 : mf_is 319 97 20 := ⟨by decide, by decide, by decide +kernel⟩
theorem len97 : mf_len 97 = 8 := by decide +kernel
theorem is98 : mf_is 319 98 20 := ⟨by decide, by decide, by decide +kernel⟩
theorem len98 : mf_len 98 = 8 := by decide +kernel
theorem is99 : mf_is 319 99 20 := ⟨by decide, by decide, by decide +kernel⟩
theorem len99 : mf_len 99 = 8 := by decide +kernel
theorem is100 : mf_is 319 100 20 := ⟨by decide, by decide, by decide +kernel⟩
theorem len100 : mf_len 100 = 8 := by decide +kernel
theorem is101 : mf_is 319 101 20 := ⟨by decide, by decide, by decide +kernel⟩
theorem len101 : mf_len 101 = 40 := by decide +kernel
theorem is102 : mf_is 319 102 25 := ⟨by decide, by decide, by decide +kernel⟩
theorem len102 : mf_len 102 = 20 := by decide +kernel
theorem is103 : mf_is 319 103 6 := ⟨by decide, by decide, by decide +kernel⟩
theorem is104 : mf_is 319 104 20 := ⟨by decide, by decide, by decide +kernel⟩
theorem len104 : mf_len 104 = 6 := by decide +kernel
theorem is105 : mf_is 319 105 20 := ⟨by decide, by decide, by decide +kernel⟩
theorem len105 : mf_len 105 = 8 := by decide +kernel
theorem is106 : mf_is 319 106 20 := ⟨by decide, by decide, by decide +kernel⟩
theorem len106 : mf_len 106 = 8 := by decide +kernel
theorem is107 : mf_is 319 107 20 := ⟨by decide, by decide, by decide +kernel⟩
theorem len107 : mf_len 107 = 8 := by decide +kernel
theorem is108 : mf_is 319 108 20 := ⟨by decide, by decide, by decide +kernel⟩
theorem len108 : mf_len 108 = 8 := by decide +kernel
theorem is109 : mf_is 319 109 20 := ⟨by decide, by decide, by decide +kernel⟩
theorem len109 : mf_len 109 = 40 := by decide +kernel
theorem is110 : mf_is 319 110 6 := ⟨by decide, by decide, by decide +kernel⟩
theorem is111 : mf_is 319 111 20 := ⟨by decide, by decide, by decide +kernel⟩
theorem len111 : mf_len 111 = 6 := by decide +kernel
theorem is112 : mf_is 319 112 20 := ⟨by decide, by decide, by decide +kernel⟩
theorem len112 : mf_len 112 = 8 := by decide +kernel
theorem is113 : mf_is 319 113 20 := ⟨by decide, by decide, by decide +kernel⟩
theorem len113 : mf_len 113 = 8 := by decide +kernel
theorem is114 : mf_is 319 114 20 := ⟨by decide, by decide, by decide +kernel⟩
theorem len114 : mf_len 114 = 8 := by decide +kernel
theorem is115 : mf_is 319 115 20 := ⟨by decide, by decide, by decide +kernel⟩
theorem len115 : mf_len 115 = 8 := by decide +kernel
theorem is116 : mf_is 319 116 20 := ⟨by decide, by decide, by decide +kernel⟩
theorem len116 : mf_len 116 = 40 := by decide +kernel
theorem is117 : mf_is 319 117 6 := ⟨by decide, by decide, by decide +kernel⟩
theorem is118 : mf_is 319 118 20 := ⟨by decide, by decide, by decide +kernel⟩
theorem len118 : mf_len 118 = 6 := by decide +kernel
theorem is119 : mf_is 319 119 20 := ⟨by decide, by decide, by decide +kernel⟩
theorem len119 : mf_len 119 = 8 := by decide +kernel
theorem is120 : mf_is 319 120 20 := ⟨by decide, by decide, by decide +kernel⟩
theorem len120 : mf_len 120 = 8 := by decide +kernel
theorem is121 : mf_is 319 121 20 := ⟨by decide, by decide, by decide +kernel⟩
theorem len121 : mf_len 121 = 8 := by decide +kernel
theorem is122 : mf_is 319 122 20 := ⟨by decide, by decide, by decide +kernel⟩
theorem len122 : mf_len 122 = 8 := by decide +kernel
theorem is123 : mf_is 319 123 20 := ⟨by decide, by decide, by decide +kernel⟩
theorem len123 : mf_len 123 = 40 := by decide +kernel
theorem is124 : mf_is 319 124 6 := ⟨by decide, by decide, by decide +kernel⟩
theorem is125 : mf_is 319 125 20 := ⟨by decide, by decide, by decide +kernel⟩
theorem len125 : mf_len 125 = 6 := by decide +kernel
theorem is126 : mf_is 319 126 20 := ⟨by decide, by decide, by decide +kernel⟩
theorem len126 : mf_len 126 = 8 := by decide +kernel
theorem is127 : mf_is 319 127 20 := ⟨by decide, by decide, by decide +kernel⟩
theorem len127 : mf_len 127 = 8 := by decide +kernel
theorem is128 : mf_is 319 128 20 := ⟨by decide, by decide, by decide +kernel⟩
theorem len128 : mf_len 128 = 8 := by decide +kernel
theorem is129 : mf_is 319 129 20 := ⟨by decide, by decide, by decide +kernel⟩
theorem len129 : mf_len 129 = 8 := by decide +kernel
theorem is130 : mf_is 319 130 20 := ⟨by decide, by decide, by decide +kernel⟩
theorem len130 : mf_len 130 = 40 := by decide +kernel
theorem is131 : mf_is 319 131 6 := ⟨by decide, by decide, by decide +kernel⟩
theorem is132 : mf_is 319 132 20 := ⟨by decide, by decide, by decide +kernel⟩
theorem len132 : mf_len 132 = 6 := by decide +kernel
theorem is133 : mf_is 319 133 20 := ⟨by decide, by decide, by decide +kernel⟩
theorem len133 : mf_len 133 = 8 := by decide +kernel
theorem is134 : mf_is 319 134 20 := ⟨by decide, by decide, by decide +kernel⟩
theorem len134 : mf_len 134 = 8 := by decide +kernel
theorem is135 : mf_is 319 135 20 := ⟨by decide, by decide, by decide +kernel⟩
theorem len135 : mf_len 135 = 8 := by decide +kernel
theorem is136 : mf_is 319 136 20 := ⟨by decide, by decide, by decide +kernel⟩
theorem len136 : mf_len 136 = 8 := by decide +kernel
theorem is137 : mf_is 319 137 20 := ⟨by decide, by decide, by decide +kernel⟩
theorem len137 : mf_len 137 = 40 := by decide +kernel
theorem is138 : mf_is 319 138 6 := ⟨by decide, by decide, by decide +kernel⟩
theorem is139 : mf_is 319 139 20 := ⟨by decide, by decide, by decide +kernel⟩
theorem len139 : mf_len 139 = 6 := by decide +kernel
theorem is140 : mf_is 319 140 20 := ⟨by decide, by decide, by decide +kernel⟩
theorem len140 : mf_len 140 = 8 := by decide +kernel
theorem is141 : mf_is 319 141 20 := ⟨by decide, by decide, by decide +kernel⟩
theorem len141 : mf_len 141 = 8 := by decide +kernel
theorem is142 : mf_is 319 142 20 := ⟨by decide, by decide, by decide +kernel⟩
theorem len142 : mf_len 142 = 8 := by decide +kernel
theorem is143 : mf_is 319 143 20 := ⟨by decide, by decide, by decide +kernel⟩
theorem len143 : mf_len 143 = 8 := by decide +kernel
theorem is144 : mf_is 319 144 20 := ⟨by decide, by decide, by decide +kernel⟩
theorem len144 : mf_len 144 = 40 := by decide +kernel
theorem is145 : mf_is 319 145 6 := ⟨by decide, by decide, by decide +kernel⟩
theorem is146 : mf_is 319 146 20 := ⟨by decide, by decide, by decide +kernel⟩
theorem len146 : mf_len 146 = 6 := by decide +kernel
theorem is147 : mf_is 319 147 20 := ⟨by decide, by decide, by decide +kernel⟩
theorem len147 : mf_len 147 = 8 := by decide +kernel
theorem is148 : mf_is 319 148 20 := ⟨by decide, by decide, by decide +kernel⟩
theorem len148 : mf_len 148 = 8 := by decide +kernel
theorem is149 : mf_is 319 149 20 := ⟨by decide, by decide, by decide +kernel⟩
theorem len149 : mf_len 149 = 8 := by decide +kernel
theorem is150 : mf_is 319 150 20 := ⟨by decide, by decide, by decide +kernel⟩
theorem len150 : mf_len 150 = 8 := by decide +kernel
theorem is151 : mf_is 319 151 20 := ⟨by decide, by decide, by decide +kernel⟩
theorem len151 : mf_len 151 = 40 := by decide +kernel
theorem is152 : mf_is 319 152 6 := ⟨by decide, by decide, by decide +kernel⟩
theorem is153 : mf_is 319 153 20 := ⟨by decide, by decide, by decide +kernel⟩
theorem len153 : mf_len 153 = 6 := by decide +kernel
theorem is154 : mf_is 319 154 20 := ⟨by decide, by decide, by decide +kernel⟩
theorem len154 : mf_len 154 = 8 := by decide +kernel
theorem is155 : mf_is 319 155 20 := ⟨by decide, by decide, by decide +kernel⟩
theorem len155 : mf_len 155 = 8 := by decide +kernel
theorem is156 : mf_is 319 156 20 := ⟨by decide, by decide, by decide +kernel⟩
theorem len156 : mf_len 156 = 8 := by decide +kernel
theorem is157 : mf_is 319 157 20 := ⟨by decide, by decide, by decide +kernel⟩
theorem len157 : mf_len 157 = 8 := by decide +kernel
theorem is158 : mf_is 319 158 20 := ⟨by decide, by decide, by decide +kernel⟩
theorem len158 : mf_len 158 = 40 := by decide +kernel
theorem is159 : mf_is 319 159 6 := ⟨by decide, by decide, by decide +kernel⟩
theorem is160 : mf_is 319 160 20 := ⟨by decide, by decide, by decide +kernel⟩
theorem len160 : mf_len 160 = 6 := by decide +kernel
theorem is161 : mf_is 319 161 20 := ⟨by decide, by decide, by decide +kernel⟩
theorem len161 : mf_len 161 = 8 := by decide +kernel
theorem is162 : mf_is 319 162 20 := ⟨by decide, by decide, by decide +kernel⟩
theorem len162 : mf_len 162 = 8 := by decide +kernel
theorem is163 : mf_is 319 163 20 := ⟨by decide, by decide, by decide +kernel⟩
theorem len163 : mf_len 163 = 8 := by decide +kernel
theorem is164 : mf_is 319 164 20 := ⟨by decide, by decide, by decide +kernel⟩
theorem len164 : mf_len 164 = 8 := by decide +kernel
theorem is165 : mf_is 319 165 20 := ⟨by decide, by decide, by decide +kernel⟩
theorem len165 : mf_len 165 = 40 := by decide +kernel
theorem is166 : mf_is 319 166 6 := ⟨by decide, by decide, by decide +kernel⟩
theorem is167 : mf_is 319 167 20 := ⟨by decide, by decide, by decide +kernel⟩
theorem len167 : mf_len 167 = 6 := by decide +kernel
theorem is168 : mf_is 319 168 20 := ⟨by decide, by decide, by decide +kernel⟩
theorem len168 : mf_len 168 = 8 := by decide +kernel
theorem is169 : mf_is 319 169 20 := ⟨by decide, by decide, by decide +kernel⟩
theorem len169 : mf_len 169 = 8 := by decide +kernel
theorem is170 : mf_is 319 170 20 := ⟨by decide, by decide, by decide +kernel⟩
theorem len170 : mf_len 170 = 8 := by decide +kernel
theorem is171 : mf_is 319 171 20 := ⟨by decide, by decide, by decide +kernel⟩
theorem len171 : mf_len 171 = 8 := by decide +kernel
theorem is172 : mf_is 319 172 20 := ⟨by decide, by decide, by decide +kernel⟩
theorem len172 : mf_len 172 = 40 := by decide +kernel
theorem is173 : mf_is 319 173 6 := ⟨by decide, by decide, by decide +kernel⟩
theorem is174 : mf_is 319 174 20 := ⟨by decide, by decide, by decide +kernel⟩
theorem len174 : mf_len 174 = 6 := by decide +kernel
theorem is175 : mf_is 319 175 20 := ⟨by decide, by decide, by decide +kernel⟩
theorem len175 : mf_len 175 = 8 := by decide +kernel
theorem is176 : mf_is 319 176 20 := ⟨by decide, by decide, by decide +kernel⟩
theorem len176 : mf_len 176 = 8 := by decide +kernel
theorem is177 : mf_is 319 177 20 := ⟨by decide, by decide, by decide +kernel⟩
theorem len177 : mf_len 177 = 8 := by decide +kernel
theorem is178 : mf_is 319 178 20 := ⟨by decide, by decide, by decide +kernel⟩
theorem len178 : mf_len 178 = 8 := by decide +kernel
theorem is179 : mf_is 319 179 20 := ⟨by decide, by decide, by decide +kernel⟩
theorem len179 : mf_len 179 = 40 := by decide +kernel
theorem is180 : mf_is 319 180 6 := ⟨by decide, by decide, by decide +kernel⟩
theorem is181 : mf_is 319 181 20 := ⟨by decide, by decide, by decide +kernel⟩
theorem len181 : mf_len 181 = 6 := by decide +kernel
theorem is182 : mf_is 319 182 20 := ⟨by decide, by decide, by decide +kernel⟩
theorem len182 : mf_len 182 = 8 := by decide +kernel
theorem is183 : mf_is 319 183 20 := ⟨by decide, by decide, by decide +kernel⟩
theorem len183 : mf_len 183 = 8 := by decide +kernel
theorem is184 : mf_is 319 184 20 := ⟨by decide, by decide, by decide +kernel⟩
theorem len184 : mf_len 184 = 8 := by decide +kernel
theorem is185 : mf_is 319 185 20 := ⟨by decide, by decide, by decide +kernel⟩
theorem len185 : mf_len 185 = 8 := by decide +kernel
theorem is186 : mf_is 319 186 20 := ⟨by decide, by decide, by decide +kernel⟩
theorem len186 : mf_len 186 = 40 := by decide +kernel
theorem is187 : mf_is 319 187 6 := ⟨by decide, by decide, by decide +kernel⟩
theorem is188 : mf_is 319 188 20 := ⟨by decide, by decide, by decide +kernel⟩
theorem len188 : mf_len 188 = 6 := by decide +kernel
theorem is189 : mf_is 319 189 20 := ⟨by decide, by decide, by decide +kernel⟩
theorem len189 : mf_len 189 = 8 := by decide +kernel
theorem is190 : mf_is 319 190 20 := ⟨by decide, by decide, by decide +kernel⟩
theorem len190 : mf_len 190 = 8 := by decide +kernel
theorem is191 : mf_is 319 191 20 := ⟨by decide, by decide, by decide +kernel⟩
theorem len191 : mf_len 191 = 8 := by decide +kernel
theorem is192 : mf_is 319 192 20 := ⟨by decide, by decide, by decide +kernel⟩
theorem len192 : mf_len 192 = 8 := by decide +kernel
theorem is193 : mf_is 319 193 20 := ⟨by decide, by decide, by decide +kernel⟩
theorem len193 : mf_len 193 = 40 := by decide +kernel
theorem is194 : mf_is 319 194 6 := ⟨by decide, by decide, by decide +kernel⟩
theorem is195 : mf_is 319 195 20 := ⟨by decide, by decide, by decide +kernel⟩
theorem len195 : mf_len 195 = 6 := by decide +kernel
theorem is196 : mf_is 319 196 20 := ⟨by decide, by decide, by decide +kernel⟩
theorem len196 : mf_len 196 = 8 := by decide +kernel
theorem is197 : mf_is 319 197 20 := ⟨by decide, by decide, by decide +kernel⟩
theorem len197 : mf_len 197 = 8 := by decide +kernel
theorem is198 : mf_is 319 198 20 := ⟨by decide, by decide, by decide +kernel⟩
theorem len198 : mf_len 198 = 8 := by decide +kernel
theorem is199 : mf_is 319 199 20 := ⟨by decide, by decide, by decide +kernel⟩
theorem len199 : mf_len 199 = 8 := by decide +kernel
theorem is200 : mf_is 319 200 20 := ⟨by decide, by decide, by decide +kernel⟩
theorem len200 : mf_len 200 = 40 := by decide +kernel
theorem is201 : mf_is 319 201 6 := ⟨by decide, by decide, by decide +kernel⟩
theorem is202 : mf_is 319 202 20 := ⟨by decide, by decide, by decide +kernel⟩
theorem len202 : mf_len 202 = 6 := by decide +kernel
theorem is203 : mf_is 319 203 20 := ⟨by decide, by decide, by decide +kernel⟩
theorem len203 : mf_len 203 = 8 := by decide +kernel
theorem is204 : mf_is 319 204 20 := ⟨by decide, by decide, by decide +kernel⟩
theorem len204 : mf_len 204 = 8 := by decide +kernel
theorem is205 : mf_is 319 205 20 := ⟨by decide, by decide, by decide +kernel⟩
theorem len205 : mf_len 205 = 8 := by decide +kernel
theorem is206 : mf_is 319 206 20 := ⟨by decide, by decide, by decide +kernel⟩
theorem len206 : mf_len 206 = 8 := by decide +kernel
theorem is207 : mf_is 319 207 20 := ⟨by decide, by decide, by decide +kernel⟩
theorem len207 : mf_len 207 = 40 := by decide +kernel
theorem is208 : mf_is 319 208 6 := ⟨by decide, by decide, by decide +kernel⟩
theorem is209 : mf_is 319 209 20 := ⟨by decide, by decide, by decide +kernel⟩
theorem len209 : mf_len 209 = 6 := by decide +kernel
theorem is210 : mf_is 319 210 20 := ⟨by decide, by decide, by decide +kernel⟩
theorem len210 : mf_len 210 = 8 := by decide +kernel
theorem is211 : mf_is 319 211 20 := ⟨by decide, by decide, by decide +kernel⟩
theorem len211 : mf_len 211 = 8 := by decide +kernel
theorem is212 : mf_is 319 212 20 := ⟨by decide, by decide, by decide +kernel⟩
theorem len212 : mf_len 212 = 8 := by decide +kernel
theorem is213 : mf_is 319 213 20 := ⟨by decide, by decide, by decide +kernel⟩
theorem len213 : mf_len 213 = 8 := by decide +kernel
theorem is214 : mf_is 319 214 20 := ⟨by decide, by decide, by decide +kernel⟩
theorem len214 : mf_len 214 = 40 := by decide +kernel
theorem is215 : mf_is 319 215 6 := ⟨by decide, by decide, by decide +kernel⟩
theorem is216 : mf_is 319 216 20 := ⟨by decide, by decide, by decide +kernel⟩
theorem len216 : mf_len 216 = 6 := by decide +kernel
theorem is217 : mf_is 319 217 20 := ⟨by decide, by decide, by decide +kernel⟩
theorem len217 : mf_len 217 = 8 := by decide +kernel
theorem is218 : mf_is 319 218 20 := ⟨by decide, by decide, by decide +kernel⟩
theorem len218 : mf_len 218 = 8 := by decide +kernel
theorem is219 : mf_is 319 219 20 := ⟨by decide, by decide, by decide +kernel⟩
theorem len219 : mf_len 219 = 8 := by decide +kernel
theorem is220 : mf_is 319 220 20 := ⟨by decide, by decide, by decide +kernel⟩
theorem len220 : mf_len 220 = 8 := by decide +kernel
theorem is221 : mf_is 319 221 20 := ⟨by decide, by decide, by decide +kernel⟩
theorem len221 : mf_len 221 = 40 := by decide +kernel
theorem is222 : mf_is 319 222 6 := ⟨by decide, by decide, by decide +kernel⟩
theorem is223 : mf_is 319 223 20 := ⟨by decide, by decide, by decide +kernel⟩
theorem len223 : mf_len 223 = 6 := by decide +kernel
theorem is224 : mf_is 319 224 20 := ⟨by decide, by decide, by decide +kernel⟩
theorem len224 : mf_len 224 = 8 := by decide +kernel
theorem is225 : mf_is 319 225 20 := ⟨by decide, by decide, by decide +kernel⟩
theorem len225 : mf_len 225 = 8 := by decide +kernel
theorem is226 : mf_is 319 226 20 := ⟨by decide, by decide, by decide +kernel⟩
theorem len226 : mf_len 226 = 8 := by decide +kernel
theorem is227 : mf_is 319 227 20 := ⟨by decide, by decide, by decide +kernel⟩
theorem len227 : mf_len 227 = 8 := by decide +kernel
theorem is228 : mf_is 319 228 20 := ⟨by decide, by decide, by decide +kernel⟩
theorem len228 : mf_len 228 = 40 := by decide +kernel
theorem is229 : mf_is 319 229 6 := ⟨by decide, by decide, by decide +kernel⟩
theorem is230 : mf_is 319 230 20 := ⟨by decide, by decide, by decide +kernel⟩
theorem len230 : mf_len 230 = 6 := by decide +kernel
theorem is231 : mf_is 319 231 20 := ⟨by decide, by decide, by decide +kernel⟩
theorem len231 : mf_len 231 = 8 := by decide +kernel
theorem is232 : mf_is 319 232 20 := ⟨by decide, by decide, by decide +kernel⟩
theorem len232 : mf_len 232 = 8 := by decide +kernel
theorem is233 : mf_is 319 233 20 := ⟨by decide, by decide, by decide +kernel⟩
theorem len233 : mf_len 233 = 8 := by decide +kernel
theorem is234 : mf_is 319 234 20 := ⟨by decide, by decide, by decide +kernel⟩
theorem len234 : mf_len 234 = 8 := by decide +kernel
theorem is235 : mf_is 319 235 20 := ⟨by decide, by decide, by decide +kernel⟩
theorem len235 : mf_len 235 = 40 := by decide +kernel
theorem is236 : mf_is 319 236 6 := ⟨by decide, by decide, by decide +kernel⟩
theorem is237 : mf_is 319 237 20 := ⟨by decide, by decide, by decide +kernel⟩
theorem len237 : mf_len 237 = 6 := by decide +kernel
theorem is238 : mf_is 319 238 20 := ⟨by decide, by decide, by decide +kernel⟩
theorem len238 : mf_len 238 = 8 := by decide +kernel
theorem is239 : mf_is 319 239 20 := ⟨by decide, by decide, by decide +kernel⟩
theorem len239 : mf_len 239 = 8 := by decide +kernel
theorem is240 : mf_is 319 240 20 := ⟨by decide, by decide, by decide +kernel⟩
theorem len240 : mf_len 240 = 8 := by decide +kernel
theorem is241 : mf_is 319 241 20 := ⟨by decide, by decide, by decide +kernel⟩
theorem len241 : mf_len 241 = 8 := by decide +kernel
theorem is242 : mf_is 319 242 20 := ⟨by decide, by decide, by decide +kernel⟩
theorem len242 : mf_len 242 = 40 := by decide +kernel
theorem is243 : mf_is 319 243 20 := ⟨by decide, by decide, by decide +kernel⟩
theorem len243 : mf_len 243 = 6 := by decide +kernel
theorem is244 : mf_is 319 244 20 := ⟨by decide, by decide, by decide +kernel⟩
theorem len244 : mf_len 244 = 57 := by decide +kernel
theorem is245 : mf_is 319 245 12 := ⟨by decide, by decide, by decide +kernel⟩
theorem is246 : mf_is 319 246 20 := ⟨by decide, by decide, by decide +kernel⟩
theorem len246 : mf_len 246 = 1600 := by decide +kernel
theorem is247 : mf_is 319 247 20 := ⟨by decide, by decide, by decide +kernel⟩
theorem len247 : mf_len 247 = 6 := by decide +kernel
theorem is248 : mf_is 319 248 23 := ⟨by decide, by decide, by decide +kernel⟩
theorem len248 : mf_len 248 = 5 := by decide +kernel
theorem is249 : mf_is 319 249 23 := ⟨by decide, by decide, by decide +kernel⟩
theorem len249 : mf_len 249 = 5 := by decide +kernel
theorem is250 : mf_is 319 250 23 := ⟨by decide, by decide, by decide +kernel⟩
theorem len250 : mf_len 250 = 5 := by decide +kernel
theorem is251 : mf_is 319 251 23 := ⟨by decide, by decide, by decide +kernel⟩
theorem len251 : mf_len 251 = 4 := by decide +kernel
theorem is252 : mf_is 319 252 23 := ⟨by decide, by decide, by decide +kernel⟩
theorem len252 : mf_len 252 = 5 := by decide +kernel
theorem is253 : mf_is 319 253 23 := ⟨by decide, by decide, by decide +kernel⟩
theorem len253 : mf_len 253 = 2 := by decide +kernel
theorem is254 : mf_is 319 254 23 := ⟨by decide, by decide, by decide +kernel⟩
theorem len254 : mf_len 254 = 2 := by decide +kernel
theorem is255 : mf_is 319 255 23 := ⟨by decide, by decide, by decide +kernel⟩
theorem len255 : mf_len 255 = 5 := by decide +kernel
theorem is256 : mf_is 319 256 23 := ⟨by decide, by decide, by decide +kernel⟩
theorem len256 : mf_len 256 = 5 := by decide +kernel
theorem is257 : mf_is 319 257 23 := ⟨by decide, by decide, by decide +kernel⟩
theorem len257 : mf_len 257 = 4 := by decide +kernel
theorem is258 : mf_is 319 258 23 := ⟨by decide, by decide, by decide +kernel⟩
theorem len258 : mf_len 258 = 4 := by decide +kernel
theorem is259 : mf_is 319 259 23 := ⟨by decide, by decide, by decide +kernel⟩
theorem len259 : mf_len 259 = 5 := by decide +kernel
theorem is260 : mf_is 319 260 23 := ⟨by decide, by decide, by decide +kernel⟩
theorem len260 : mf_len 260 = 5 := by decide +kernel
theorem is261 : mf_is 319 261 23 := ⟨by decide, by decide, by decide +kernel⟩
theorem len261 : mf_len 261 = 3 := by decide +kernel
theorem is262 : mf_is 319 262 23 := ⟨by decide, by decide, by decide +kernel⟩
theorem len262 : mf_len 262 = 4 := by decide +kernel
theorem is263 : mf_is 319 263 23 := ⟨by decide, by decide, by decide +kernel⟩
theorem len263 : mf_len 263 = 4 := by decide +kernel
theorem is264 : mf_is 319 264 23 := ⟨by decide, by decide, by decide +kernel⟩
theorem len264 : mf_len 264 = 5 := by decide +kernel
theorem is265 : mf_is 319 265 23 := ⟨by decide, by decide, by decide +kernel⟩
theorem len265 : mf_len 265 = 4 := by decide +kernel
theorem is266 : mf_is 319 266 23 := ⟨by decide, by decide, by decide +kernel⟩
theorem len266 : mf_len 266 = 5 := by decide +kernel
theorem is267 : mf_is 319 267 23 := ⟨by decide, by decide, by decide +kernel⟩
theorem len267 : mf_len 267 = 6 := by decide +kernel
theorem is268 : mf_is 319 268 23 := ⟨by decide, by decide, by decide +kernel⟩
theorem len268 : mf_len 268 = 3 := by decide +kernel
theorem is269 : mf_is 319 269 23 := ⟨by decide, by decide, by decide +kernel⟩
theorem len269 : mf_len 269 = 5 := by decide +kernel
theorem is270 : mf_is 319 270 23 := ⟨by decide, by decide, by decide +kernel⟩
theorem len270 : mf_len 270 = 2 := by decide +kernel
theorem is271 : mf_is 319 271 23 := ⟨by decide, by decide, by decide +kernel⟩
theorem len271 : mf_len 271 = 3 := by decide +kernel
theorem is272 : mf_is 319 272 23 := ⟨by decide, by decide, by decide +kernel⟩
theorem len272 : mf_len 272 = 3 := by decide +kernel
theorem is273 : mf_is 319 273 23 := ⟨by decide, by decide, by decide +kernel⟩
theorem len273 : mf_len 273 = 3 := by decide +kernel
theorem is274 : mf_is 319 274 23 := ⟨by decide, by decide, by decide +kernel⟩
theorem len274 : mf_len 274 = 3 := by decide +kernel
theorem is275 : mf_is 319 275 23 := ⟨by decide, by decide, by decide +kernel⟩
theorem len275 : mf_len 275 = 3 := by decide +kernel
theorem is276 : mf_is 319 276 20 := ⟨by decide, by decide, by decide +kernel⟩
theorem len276 : mf_len 276 = 4 := by decide +kernel
theorem is277 : mf_is 319 277 20 := ⟨by decide, by decide, by decide +kernel⟩
theorem len277 : mf_len 277 = 6 := by decide +kernel
theorem is278 : mf_is 319 278 24 := ⟨by decide, by decide, by decide +kernel⟩
theorem len278 : mf_len 278 = 16 := by decide +kernel
theorem is279 : mf_is 319 279 20 := ⟨by decide, by decide, by decide +kernel⟩
theorem len279 : mf_len 279 = 6 := by decide +kernel
theorem is280 : mf_is 319 280 20 := ⟨by decide, by decide, by decide +kernel⟩
theorem len280 : mf_len 280 = 72 := by decide +kernel
theorem is281 : mf_is 319 281 20 := ⟨by decide, by decide, by decide +kernel⟩
theorem len281 : mf_len 281 = 16 := by decide +kernel
theorem is282 : mf_is 319 282 20 := ⟨by decide, by decide, by decide +kernel⟩
theorem len282 : mf_len 282 = 16 := by decide +kernel
theorem is283 : mf_is 319 283 20 := ⟨by decide, by decide, by decide +kernel⟩
theorem len283 : mf_len 283 = 8 := by decide +kernel
theorem is284 : mf_is 319 284 20 := ⟨by decide, by decide, by decide +kernel⟩
theorem len284 : mf_len 284 = 8 := by decide +kernel
theorem is285 : mf_is 319 285 20 := ⟨by decide, by decide, by decide +kernel⟩
theorem len285 : mf_len 285 = 3200 := by decide +kernel
theorem is286 : mf_is 319 286 20 := ⟨by decide, by decide, by decide +kernel⟩
theorem len286 : mf_len 286 = 160 := by decide +kernel
theorem is287 : mf_is 319 287 20 := ⟨by decide, by decide, by decide +kernel⟩
theorem len287 : mf_len 287 = 39 := by decide +kernel
theorem is288 : mf_is 319 288 20 := ⟨by decide, by decide, by decide +kernel⟩
theorem len288 : mf_len 288 = 8 := by decide +kernel
theorem is289 : mf_is 319 289 22 := ⟨by decide, by decide, by decide +kernel⟩
theorem len289 : mf_len 289 = 96 := by decide +kernel
theorem is290 : mf_is 319 290 20 := ⟨by decide, by decide, by decide +kernel⟩
theorem len290 : mf_len 290 = 32 := by decide +kernel
theorem is291 : mf_is 319 291 20 := ⟨by decide, by decide, by decide +kernel⟩
theorem len291 : mf_len 291 = 56 := by decide +kernel
theorem is292 : mf_is 319 292 20 := ⟨by decide, by decide, by decide +kernel⟩
theorem len292 : mf_len 292 = 3200 := by decide +kernel
theorem is293 : mf_is 319 293 23 := ⟨by decide, by decide, by decide +kernel⟩
theorem len293 : mf_len 293 = 5 := by decide +kernel
theorem is294 : mf_is 319 294 23 := ⟨by decide, by decide, by decide +kernel⟩
theorem len294 : mf_len 294 = 4 := by decide +kernel
theorem is295 : mf_is 319 295 23 := ⟨by decide, by decide, by decide +kernel⟩
theorem len295 : mf_len 295 = 5 := by decide +kernel
theorem is296 : mf_is 319 296 23 := ⟨by decide, by decide, by decide +kernel⟩
theorem len296 : mf_len 296 = 5 := by decide +kernel
theorem is297 : mf_is 319 297 23 := ⟨by decide, by decide, by decide +kernel⟩
theorem len297 : mf_len 297 = 4 := by decide +kernel
theorem is298 : mf_is 319 298 23 := ⟨by decide, by decide, by decide +kernel⟩
theorem len298 : mf_len 298 = 5 := by decide +kernel
theorem is299 : mf_is 319 299 23 := ⟨by decide, by decide, by decide +kernel⟩
theorem len299 : mf_len 299 = 3 := by decide +kernel
theorem is300 : mf_is 319 300 23 := ⟨by decide, by decide, by decide +kernel⟩
theorem len300 : mf_len 300 = 3 := by decide +kernel
theorem is301 : mf_is 319 301 23 := ⟨by decide, by decide, by decide +kernel⟩
theorem len301 : mf_len 301 = 2 := by decide +kernel
theorem is302 : mf_is 319 302 23 := ⟨by decide, by decide, by decide +kernel⟩
theorem len302 : mf_len 302 = 3 := by decide +kernel
theorem is303 : mf_is 319 303 23 := ⟨by decide, by decide, by decide +kernel⟩
theorem len303 : mf_len 303 = 3 := by decide +kernel
theorem is304 : mf_is 319 304 23 := ⟨by decide, by decide, by decide +kernel⟩
theorem len304 : mf_len 304 = 3 := by decide +kernel
theorem is305 : mf_is 319 305 23 := ⟨by decide, by decide, by decide +kernel⟩
theorem len305 : mf_len 305 = 3 := by decide +kernel
theorem is306 : mf_is 319 306 23 := ⟨by decide, by decide, by decide +kernel⟩
theorem len306 : mf_len 306 = 4 := by decide +kernel
theorem is307 : mf_is 319 307 23 := ⟨by decide, by decide, by decide +kernel⟩
theorem len307 : mf_len 307 = 4 := by decide +kernel
theorem is308 : mf_is 319 308 23 := ⟨by decide, by decide, by decide +kernel⟩
theorem len308 : mf_len 308 = 5 := by decide +kernel
theorem is309 : mf_is 319 309 23 := ⟨by decide, by decide, by decide +kernel⟩
theorem len309 : mf_len 309 = 5 := by decide +kernel
theorem is310 : mf_is 319 310 23 := ⟨by decide, by decide, by decide +kernel⟩
theorem len310 : mf_len 310 = 4 := by decide +kernel
theorem is311 : mf_is 319 311 23 := ⟨by decide, by decide, by decide +kernel⟩
theorem len311 : mf_len 311 = 5 := by decide +kernel
theorem is312 : mf_is 319 312 23 := ⟨by decide, by decide, by decide +kernel⟩
theorem len312 : mf_len 312 = 6 := by decide +kernel
theorem is313 : mf_is 319 313 23 := ⟨by decide, by decide, by decide +kernel⟩
theorem len313 : mf_len 313 = 3 := by decide +kernel
theorem is314 : mf_is 319 314 23 := ⟨by decide, by decide, by decide +kernel⟩
theorem len314 : mf_len 314 = 5 := by decide +kernel
theorem is315 : mf_is 319 315 20 := ⟨by decide, by decide, by decide +kernel⟩
theorem len315 : mf_len 315 = 1700 := by decide +kernel
theorem is316 : mf_is 319 316 20 := ⟨by decide, by decide, by decide +kernel⟩
theorem len316 : mf_len 316 = 1700 := by decide +kernel
theorem is317 : mf_is 319 317 24 := ⟨by decide, by decide, by decide +kernel⟩
theorem len317 : mf_len 317 = 1700 := by decide +kernel
theorem is318 : mf_is 319 318 20 := ⟨by decide, by decide, by decide +kernel⟩
theorem len318 : mf_len 318 = 57 := by decide +kernel
def mf_pm : List (Int × Int) := [(0, 246), (9, 247), (11, 248), (12, 249), (13, 250), (14, 251), (15, 252), (16, 253), (17, 254), (18, 255), (19, 256), (20, 257), (21, 258), (22, 259), (23, 260), (24, 261), (25, 262), (26, 263), (27, 264), (28, 265), (29, 266), (30, 267), (31, 268), (32, 269), (33, 270), (34, 271), (35, 272), (36, 273), (37, 274), (38, 275), (40, 276), (41, 277), (42, 278), (43, 279), (44, 280), (45, 281), (46, 282), (49, 283), (50, 284), (51, 285), (56, 286), (57, 287), (63, 288), (64, 289), (66, 290), (67, 291), (68, 292), (72, 293), (73, 294), (74, 295), (75, 296), (76, 297), (77, 298), (78, 299), (79, 300), (80, 301), (81, 302), (82, 303), (83, 304), (84, 305), (85, 306), (86, 307), (87, 308), (88, 309), (89, 310), (90, 311), (91, 312), (92, 313), (93, 314), (94, 315), (96, 316), (100, 317), (104, 318)]
def mf_px : List (Int × Int × Int) := [(0, 0, 3), (0, 1, 5), (0, 2, 10), (0, 3, 45), (0, 4, 46), (0, 5, 51), (0, 6, 6), (0, 7, 88), (0, 8, 95), (0, 9, 102), (0, 10, 243), (0, 11, 244), (1, 0, 2), (3, 0, 4), (5, 0, 3), (5, 1, 1), (10, 0, 5), (10, 1, 1), (45, 0, 5), (45, 1, 1), (45, 2, 10), (46, 0, 47), (47, 0, 48), (47, 1, 49), (47, 2, 50), (51, 0, 46), (51, 1, 52), (51, 2, 53), (51, 3, 60), (51, 4, 61), (51, 5, 62), (51, 6, 63), (51, 7, 64), (51, 8, 65), (51, 9, 66)]
def mf_GM (g : mf_M) : Prop := ∀ q ∈ mf_pm, g 245 q.1 = q.2
theorem gm_0 {g : mf_M} (h : mf_GM g) : g 245 0 = 246 := h (0, 246) (List.mem_of_getElem? (i := 0) rfl)
theorem gm_9 {g : mf_M} (h : mf_GM g) : g 245 9 = 247 := h (9, 247) (List.mem_of_getElem? (i := 1) rfl)
theorem gm_11 {g : mf_M} (h : mf_GM g) : g 245 11 = 248 := h (11, 248) (List.mem_of_getElem? (i := 2) rfl)
theorem gm_12 {g : mf_M} (h : mf_GM g) : g 245 12 = 249 := h (12, 249) (List.mem_of_getElem? (i := 3) rfl)
theorem gm_13 {g : mf_M} (h : mf_GM g) : g 245 13 = 250 := h (13, 250) (List.mem_of_getElem? (i := 4) rfl)
theorem gm_14 {g : mf_M} (h : mf_GM g) : g 245 14 = 251 := h (14, 251) (List.mem_of_getElem? (i := 5) rfl)
theorem gm_15 {g : mf_M} (h : mf_GM g) : g 245 15 = 252 := h (15, 252) (List.mem_of_getElem? (i := 6) rfl)
theorem gm_16 {g : mf_M} (h : mf_GM g) : g 245 16 = 253 := h (16, 253) (List.mem_of_getElem? (i := 7) rfl)
theorem gm_17 {g : mf_M} (h : mf_GM g) : g 245 17 = 254 := h (17, 254) (List.mem_of_getElem? (i := 8) rfl)
theorem gm_18 {g : mf_M} (h : mf_GM g) : g 245 18 = 255 := h (18, 255) (List.mem_of_getElem? (i := 9) rfl)
theorem gm_19 {g : mf_M} (h : mf_GM g) : g 245 19 = 256 := h (19, 256) (List.mem_of_getElem? (i := 10) rfl)
theorem gm_20 {g : mf_M} (h : mf_GM g) : g 245 20 = 257 := h (20, 257) (List.mem_of_getElem? (i := 11) rfl)
theorem gm_21 {g : mf_M} (h : mf_GM g) : g 245 21 = 258 := h (21, 258) (List.mem_of_getElem? (i := 12) rfl)
theorem gm_22 {g : mf_M} (h : mf_GM g) : g 245 22 = 259 := h (22, 259) (List.mem_of_getElem? (i := 13) rfl)
theorem gm_23 {g : mf_M} (h : mf_GM g) : g 245 23 = 260 := h (23, 260) (List.mem_of_getElem? (i := 14) rfl)
theorem gm_24 {g : mf_M} (h : mf_GM g) : g 245 24 = 261 := h (24, 261) (List.mem_of_getElem? (i := 15) rfl)
theorem gm_25 {g : mf_M} (h : mf_GM g) : g 245 25 = 262 := h (25, 262) (List.mem_of_getElem? (i := 16) rfl)
theorem gm_26 {g : mf_M} (h : mf_GM g) : g 245 26 = 263 := h (26, 263) (List.mem_of_getElem? (i := 17) rfl)
theorem gm_27 {g : mf_M} (h : mf_GM g) : g 245 27 = 264 := h (27, 264) (List.mem_of_getElem? (i := 18) rfl)
theorem gm_28 {g : mf_M} (h : mf_GM g) : g 245 28 = 265 := h (28, 265) (List.mem_of_getElem? (i := 19) rfl)
theorem gm_29 {g : mf_M} (h : mf_GM g) : g 245 29 = 266 := h (29, 266) (List.mem_of_getElem? (i := 20) rfl)
theorem gm_30 {g : mf_M} (h : mf_GM g) : g 245 30 = 267 := h (30, 267) (List.mem_of_getElem? (i := 21) rfl)
theorem gm_31 {g : mf_M} (h : mf_GM g) : g 245 31 = 268 := h (31, 268) (List.mem_of_getElem? (i := 22) rfl)
theorem gm_32 {g : mf_M} (h : mf_GM g) : g 245 32 = 269 := h (32, 269) (List.mem_of_getElem? (i := 23) rfl)
theorem gm_33 {g : mf_M} (h : mf_GM g) : g 245 33 = 270 := h (33, 270) (List.mem_of_getElem? (i := 24) rfl)
theorem gm_34 {g : mf_M} (h : mf_GM g) : g 245 34 = 271 := h (34, 271) (List.mem_of_getElem? (i := 25) rfl)
theorem gm_35 {g : mf_M} (h : mf_GM g) : g 245 35 = 272 := h (35, 272) (List.mem_of_getElem? (i := 26) rfl)
theorem gm_36 {g : mf_M} (h : mf_GM g) : g 245 36 = 273 := h (36, 273) (List.mem_of_getElem? (i := 27) rfl)
theorem gm_37 {g : mf_M} (h : mf_GM g) : g 245 37 = 274 := h (37, 274) (List.mem_of_getElem? (i := 28) rfl)
theorem gm_38 {g : mf_M} (h : mf_GM g) : g 245 38 = 275 := h (38, 275) (List.mem_of_getElem? (i := 29) rfl)
theorem gm_40 {g : mf_M} (h : mf_GM g) : g 245 40 = 276 := h (40, 276) (List.mem_of_getElem? (i := 30) rfl)
theorem gm_41 {g : mf_M} (h : mf_GM g) : g 245 41 = 277 := h (41, 277) (List.mem_of_getElem? (i := 31) rfl)
theorem gm_42 {g : mf_M} (h : mf_GM g) : g 245 42 = 278 := h (42, 278) (List.mem_of_getElem? (i := 32) rfl)
theorem gm_43 {g : mf_M} (h : mf_GM g) : g 245 43 = 279 := h (43, 279) (List.mem_of_getElem? (i := 33) rfl)
theorem gm_44 {g : mf_M} (h : mf_GM g) : g 245 44 = 280 := h (44, 280) (List.mem_of_getElem? (i := 34) rfl)
theorem gm_45 {g : mf_M} (h : mf_GM g) : g 245 45 = 281 := h (45, 281) (List.mem_of_getElem? (i := 35) rfl)
theorem gm_46 {g : mf_M} (h : mf_GM g) : g 245 46 = 282 := h (46, 282) (List.mem_of_getElem? (i := 36) rfl)
theorem gm_49 {g : mf_M} (h : mf_GM g) : g 245 49 = 283 := h (49, 283) (List.mem_of_getElem? (i := 37) rfl)
theorem gm_50 {g : mf_M} (h : mf_GM g) : g 245 50 = 284 := h (50, 284) (List.mem_of_getElem? (i := 38) rfl)
theorem gm_51 {g : mf_M} (h : mf_GM g) : g 245 51 = 285 := h (51, 285) (List.mem_of_getElem? (i := 39) rfl)
theorem gm_56 {g : mf_M} (h : mf_GM g) : g 245 56 = 286 := h (56, 286) (List.mem_of_getElem? (i := 40) rfl)
theorem gm_57 {g : mf_M} (h : mf_GM g) : g 245 57 = 287 := h (57, 287) (List.mem_of_getElem? (i := 41) rfl)
theorem gm_63 {g : mf_M} (h : mf_GM g) : g 245 63 = 288 := h (63, 288) (List.mem_of_getElem? (i := 42) rfl)
theorem gm_64 {g : mf_M} (h : mf_GM g) : g 245 64 = 289 := h (64, 289) (List.mem_of_getElem? (i := 43) rfl)
theorem gm_66 {g : mf_M} (h : mf_GM g) : g 245 66 = 290 := h (66, 290) (List.mem_of_getElem? (i := 44) rfl)
theorem gm_67 {g : mf_M} (h : mf_GM g) : g 245 67 = 291 := h (67, 291) (List.mem_of_getElem? (i := 45) rfl)
theorem gm_68 {g : mf_M} (h : mf_GM g) : g 245 68 = 292 := h (68, 292) (List.mem_of_getElem? (i := 46) rfl)
theorem gm_72 {g : mf_M} (h : mf_GM g) : g 245 72 = 293 := h (72, 293) (List.mem_of_getElem? (i := 47) rfl)
theorem gm_73 {g : mf_M} (h : mf_GM g) : g 245 73 = 294 := h (73, 294) (List.mem_of_getElem? (i := 48) rfl)
theorem gm_74 {g : mf_M} (h : mf_GM g) : g 245 74 = 295 := h (74, 295) (List.mem_of_getElem? (i := 49) rfl)
theorem gm_75 {g : mf_M} (h : mf_GM g) : g 245 75 = 296 := h (75, 296) (List.mem_of_getElem? (i := 50) rfl)
theorem gm_76 {g : mf_M} (h : mf_GM g) : g 245 76 = 297 := h (76, 297) (List.mem_of_getElem? (i := 51) rfl)
theorem gm_77 {g : mf_M} (h : mf_GM g) : g 245 77 = 298 := h (77, 298) (List.mem_of_getElem? (i := 52) rfl)
theorem gm_78 {g : mf_M} (h : mf_GM g) : g 245 78 = 299 := h (78, 299) (List.mem_of_getElem? (i := 53) rfl)
theorem gm_79 {g : mf_M} (h : mf_GM g) : g 245 79 = 300 := h (79, 300) (List.mem_of_getElem? (i := 54) rfl)
theorem gm_80 {g : mf_M} (h : mf_GM g) : g 245 80 = 301 := h (80, 301) (List.mem_of_getElem? (i := 55) rfl)
theorem gm_81 {g : mf_M} (h : mf_GM g) : g 245 81 = 302 := h (81, 302) (List.mem_of_getElem? (i := 56) rfl)
theorem gm_82 {g : mf_M} (h : mf_GM g) : g 245 82 = 303 := h (82, 303) (List.mem_of_getElem? (i := 57) rfl)
theorem gm_83 {g : mf_M} (h : mf_GM g) : g 245 83 = 304 := h (83, 304) (List.mem_of_getElem? (i := 58) rfl)
theorem gm_84 {g : mf_M} (h : mf_GM g) : g 245 84 = 305 := h (84, 305) (List.mem_of_getElem? (i := 59) rfl)
theorem gm_85 {g : mf_M} (h : mf_GM g) : g 245 85 = 306 := h (85, 306) (List.mem_of_getElem? (i := 60) rfl)
theorem gm_86 {g : mf_M} (h : mf_GM g) : g 245 86 = 307 := h (86, 307) (List.mem_of_getElem? (i := 61) rfl)
theorem gm_87 {g : mf_M} (h : mf_GM g) : g 245 87 = 308 := h (87, 308) (List.mem_of_getElem? (i := 62) rfl)
theorem gm_88 {g : mf_M} (h : mf_GM g) : g 245 88 = 309 := h (88, 309) (List.mem_of_getElem? (i := 63) rfl)
theorem gm_89 {g : mf_M} (h : mf_GM g) : g 245 89 = 310 := h (89, 310) (List.mem_of_getElem? (i := 64) rfl)
theorem gm_90 {g : mf_M} (h : mf_GM g) : g 245 90 = 311 := h (90, 311) (List.mem_of_getElem? (i := 65) rfl)
theorem gm_91 {g : mf_M} (h : mf_GM g) : g 245 91 = 312 := h (91, 312) (List.mem_of_getElem? (i := 66) rfl)
theorem gm_92 {g : mf_M} (h : mf_GM g) : g 245 92 = 313 := h (92, 313) (List.mem_of_getElem? (i := 67) rfl)
theorem gm_93 {g : mf_M} (h : mf_GM g) : g 245 93 = 314 := h (93, 314) (List.mem_of_getElem? (i := 68) rfl)
theorem gm_94 {g : mf_M} (h : mf_GM g) : g 245 94 = 315 := h (94, 315) (List.mem_of_getElem? (i := 69) rfl)
theorem gm_96 {g : mf_M} (h : mf_GM g) : g 245 96 = 316 := h (96, 316) (List.mem_of_getElem? (i := 70) rfl)
theorem gm_100 {g : mf_M} (h : mf_GM g) : g 245 100 = 317 := h (100, 317) (List.mem_of_getElem? (i := 71) rfl)
theorem gm_104 {g : mf_M} (h : mf_GM g) : g 245 104 = 318 := h (104, 318) (List.mem_of_getElem? (i := 72) rfl)
def mf_GX (g : mf_M) : Prop := (∀ q ∈ mf_px, g q.1 q.2.1 = q.2.2) ∧ (∀ a, mf_is 319 a 6 → g a 0 = a + 1 ∧ g a 1 = a + 2 ∧ g a 2 = a + 3 ∧ g a 3 = a + 4 ∧ g a 4 = a + 5 ∧ g a 5 = a + 6) ∧ (∀ a, mf_is 319 a 1 → g a 0 = a + 1 ∧ g a 1 = a + 2 ∧ g a 2 = a + 3 ∧ g a 3 = a + 4 ∧ g a 4 = a + 5 ∧ g a 5 = a + 6 ∧ g a 6 = a + 10) ∧ (∀ a, mf_is 319 a 4 → g a 0 = a + 1 ∧ g a 1 = a + 2 ∧ g a 2 = a + 3) ∧ (∀ i, 0 ≤ i → i < 20 → g 102 i = 103 + 7 * i) ∧ ∀ i, 0 ≤ i → i < 3 → g 52 i = 67 + 7 * i
theorem gx_0_0 {g : mf_M} (h : mf_GX g) : g 0 0 = 3 := h.1 (0, 0, 3) (List.mem_of_getElem? (i := 0) rfl)
theorem gx_0_1 {g : mf_M} (h : mf_GX g) : g 0 1 = 5 := h.1 (0, 1, 5) (List.mem_of_getElem? (i := 1) rfl)
theorem gx_0_2 {g : mf_M} (h : mf_GX g) : g 0 2 = 10 := h.1 (0, 2, 10) (List.mem_of_getElem? (i := 2) rfl)
theorem gx_0_3 {g : mf_M} (h : mf_GX g) : g 0 3 = 45 := h.1 (0, 3, 45) (List.mem_of_getElem? (i := 3) rfl)
theorem gx_0_4 {g : mf_M} (h : mf_GX g) : g 0 4 = 46 := h.1 (0, 4, 46) (List.mem_of_getElem? (i := 4) rfl)
theorem gx_0_5 {g : mf_M} (h : mf_GX g) : g 0 5 = 51 := h.1 (0, 5, 51) (List.mem_of_getElem? (i := 5) rfl)
theorem gx_0_6 {g : mf_M} (h : mf_GX g) : g 0 6 = 6 := h.1 (0, 6, 6) (List.mem_of_getElem? (i := 6) rfl)
theorem gx_0_7 {g : mf_M} (h : mf_GX g) : g 0 7 = 88 := h.1 (0, 7, 88) (List.mem_of_getElem? (i := 7) rfl)
theorem gx_0_8 {g : mf_M} (h : mf_GX g) : g 0 8 = 95 := h.1 (0, 8, 95) (List.mem_of_getElem? (i := 8) rfl)
theorem gx_0_9 {g : mf_M} (h : mf_GX g) : g 0 9 = 102 := h.1 (0, 9, 102) (List.mem_of_getElem? (i := 9) rfl)
theorem gx_0_10 {g : mf_M} (h : mf_GX g) : g 0 10 = 243 := h.1 (0, 10, 243) (List.mem_of_getElem? (i := 10) rfl)
theorem gx_0_11 {g : mf_M} (h : mf_GX g) : g 0 11 = 244 := h.1 (0, 11, 244) (List.mem_of_getElem? (i := 11) rfl)
theorem gx_1_0 {g : mf_M} (h : mf_GX g) : g 1 0 = 2 := h.1 (1, 0, 2) (List.mem_of_getElem? (i := 12) rfl)
theorem gx_3_0 {g : mf_M} (h : mf_GX g) : g 3 0 = 4 := h.1 (3, 0, 4) (List.mem_of_getElem? (i := 13) rfl)
theorem gx_5_0 {g : mf_M} (h : mf_GX g) : g 5 0 = 3 := h.1 (5, 0, 3) (List.mem_of_getElem? (i := 14) rfl)
theorem gx_5_1 {g : mf_M} (h : mf_GX g) : g 5 1 = 1 := h.1 (5, 1, 1) (List.mem_of_getElem? (i := 15) rfl)
theorem gx_10_0 {g : mf_M} (h : mf_GX g) : g 10 0 = 5 := h.1 (10, 0, 5) (List.mem_of_getElem? (i := 16) rfl)
theorem gx_10_1 {g : mf_M} (h : mf_GX g) : g 10 1 = 1 := h.1 (10, 1, 1) (List.mem_of_getElem? (i := 17) rfl)
theorem gx_45_0 {g : mf_M} (h : mf_GX g) : g 45 0 = 5 := h.1 (45, 0, 5) (List.mem_of_getElem? (i := 18) rfl)
theorem gx_45_1 {g : mf_M} (h : mf_GX g) : g 45 1 = 1 := h.1 (45, 1, 1) (List.mem_of_getElem? (i := 19) rfl)
theorem gx_45_2 {g : mf_M} (h : mf_GX g) : g 45 2 = 10 := h.1 (45, 2, 10) (List.mem_of_getElem? (i := 20) rfl)
theorem gx_46_0 {g : mf_M} (h : mf_GX g) : g 46 0 = 47 := h.1 (46, 0, 47) (List.mem_of_getElem? (i := 21) rfl)
theorem gx_47_0 {g : mf_M} (h : mf_GX g) : g 47 0 = 48 := h.1 (47, 0, 48) (List.mem_of_getElem? (i := 22) rfl)
theorem gx_47_1 {g : mf_M} (h : mf_GX g) : g 47 1 = 49 := h.1 (47, 1, 49) (List.mem_of_getElem? (i := 23) rfl)
theorem gx_47_2 {g : mf_M} (h : mf_GX g) : g 47 2 = 50 := h.1 (47, 2, 50) (List.mem_of_getElem? (i := 24) rfl)
theorem gx_51_0 {g : mf_M} (h : mf_GX g) : g 51 0 = 46 := h.1 (51, 0, 46) (List.mem_of_getElem? (i := 25) rfl)
theorem gx_51_1 {g : mf_M} (h : mf_GX g) : g 51 1 = 52 := h.1 (51, 1, 52) (List.mem_of_getElem? (i := 26) rfl)
theorem gx_51_2 {g : mf_M} (h : mf_GX g) : g 51 2 = 53 := h.1 (51, 2, 53) (List.mem_of_getElem? (i := 27) rfl)
theorem gx_51_3 {g : mf_M} (h : mf_GX g) : g 51 3 = 60 := h.1 (51, 3, 60) (List.mem_of_getElem? (i := 28) rfl)
theorem gx_51_4 {g : mf_M} (h : mf_GX g) : g 51 4 = 61 := h.1 (51, 4, 61) (List.mem_of_getElem? (i := 29) rfl)
theorem gx_51_5 {g : mf_M} (h : mf_GX g) : g 51 5 = 62 := h.1 (51, 5, 62) (List.mem_of_getElem? (i := 30) rfl)
theorem gx_51_6 {g : mf_M} (h : mf_GX g) : g 51 6 = 63 := h.1 (51, 6, 63) (List.mem_of_getElem? (i := 31) rfl)
theorem gx_51_7 {g : mf_M} (h : mf_GX g) : g 51 7 = 64 := h.1 (51, 7, 64) (List.mem_of_getElem? (i := 32) rfl)
theorem gx_51_8 {g : mf_M} (h : mf_GX g) : g 51 8 = 65 := h.1 (51, 8, 65) (List.mem_of_getElem? (i := 33) rfl)
theorem gx_51_9 {g : mf_M} (h : mf_GX g) : g 51 9 = 66 := h.1 (51, 9, 66) (List.mem_of_getElem? (i := 34) rfl)
theorem gs_0 {g : mf_M} {a : Int} (h : mf_GX g) (ha : mf_is 319 a 6) : g a 0 = a + 1 := (h.2.1 a ha).1
theorem gs_1 {g : mf_M} {a : Int} (h : mf_GX g) (ha : mf_is 319 a 6) : g a 1 = a + 2 := (h.2.1 a ha).2.1
theorem gs_2 {g : mf_M} {a : Int} (h : mf_GX g) (ha : mf_is 319 a 6) : g a 2 = a + 3 := (h.2.1 a ha).2.2.1
theorem gs_3 {g : mf_M} {a : Int} (h : mf_GX g) (ha : mf_is 319 a 6) : g a 3 = a + 4 := (h.2.1 a ha).2.2.2.1
theorem gs_4 {g : mf_M} {a : Int} (h : mf_GX g) (ha : mf_is 319 a 6) : g a 4 = a + 5 := (h.2.1 a ha).2.2.2.2.1
theorem gs_5 {g : mf_M} {a : Int} (h : mf_GX g) (ha : mf_is 319 a 6) : g a 5 = a + 6 := (h.2.1 a ha).2.2.2.2.2
theorem gf_0 {g : mf_M} {a : Int} (h : mf_GX g) (ha : mf_is 319 a 1) : g a 0 = a + 1 := (h.2.2.1 a ha).1
theorem gf_1 {g : mf_M} {a : Int} (h : mf_GX g) (ha : mf_is 319 a 1) : g a 1 = a + 2 := (h.2.2.1 a ha).2.1
theorem gf_2 {g : mf_M} {a : Int} (h : mf_GX g) (ha : mf_is 319 a 1) : g a 2 = a + 3 := (h.2.2.1 a ha).2.2.1
theorem gf_3 {g : mf_M} {a : Int} (h : mf_GX g) (ha : mf_is 319 a 1) : g a 3 = a + 4 := (h.2.2.1 a ha).2.2.2.1
theorem gf_4 {g : mf_M} {a : Int} (h : mf_GX g) (ha : mf_is 319 a 1) : g a 4 = a + 5 := (h.2.2.1 a ha).2.2.2.2.1
theorem gf_5 {g : mf_M} {a : Int} (h : mf_GX g) (ha : mf_is 319 a 1) : g a 5 = a + 6 := (h.2.2.1 a ha).2.2.2.2.2.1
theorem gf_6 {g : mf_M} {a : Int} (h : mf_GX g) (ha : mf_is 319 a 1) : g a 6 = a + 10 := (h.2.2.1 a ha).2.2.2.2.2.2
theorem gc_0 {g : mf_M} {a : Int} (h : mf_GX g) (ha : mf_is 319 a 4) : g a 0 = a + 1 := (h.2.2.2.1 a ha).1
theorem gc_1 {g : mf_M} {a : Int} (h : mf_GX g) (ha : mf_is 319 a 4) : g a 1 = a + 2 := (h.2.2.2.1 a ha).2.1
theorem gc_2 {g : mf_M} {a : Int} (h : mf_GX g) (ha : mf_is 319 a 4) : g a 2 = a + 3 := (h.2.2.2.1 a ha).2.2
theorem ga_102 {g : mf_M} {i : Int} (h : mf_GX g) (h0 : 0 ≤ i) (h1 : i < 20) : g 102 i = 103 + 7 * i := h.2.2.2.2.1 i h0 h1
theorem ga_52 {g : mf_M} {i : Int} (h : mf_GX g) (h0 : 0 ≤ i) (h1 : i < 3) : g 52 i = 67 + 7 * i := h.2.2.2.2.2 i h0 h1
theorem mf_isI {n c : Nat} {a : Int} (h : mf_is n a c) : ∃ k : Nat, a = (k : Int) ∧ k < n ∧ (mf_sh k).1 = c := by
  obtain ⟨h1, h2, h3⟩ := h
  exact ⟨a.toNat, by omega, by omega, h3⟩
theorem mf_isN {n c k : Nat} (h1 : k < n) (h2 : (mf_sh k).1 = c) : mf_is n (k : Int) c := ⟨by omega, by omega, by simpa using h2⟩
theorem mf_lenN (k : Nat) : mf_len (k : Int) = ((mf_sh k).2 : Int) := by simp [mf_len]
theorem st_all : ∀ k, k < 319 → (mf_sh k).1 = 6 → k + 7 ≤ 319 ∧ mf_sh (k + 1) = (20, 6) ∧ mf_sh (k + 2) = (20, 8) ∧ mf_sh (k + 3) = (20, 8) ∧ mf_sh (k + 4) = (20, 8) ∧ mf_sh (k + 5) = (20, 8) ∧ mf_sh (k + 6) = (20, 40) := by decide +kernel
theorem fo_all : ∀ k, k < 319 → (mf_sh k).1 = 1 → k + 17 ≤ 319 ∧ mf_sh (k + 1) = (20, 12) ∧ mf_sh (k + 2) = (20, 12) ∧ mf_sh (k + 3) = (20, 12) ∧ mf_sh (k + 4) = (20, 8) ∧ mf_sh (k + 5) = (20, 8) ∧ (mf_sh (k + 6)).1 = 4 ∧ (mf_sh (k + 10)).1 = 6 := by decide +kernel
theorem sc_all : ∀ k, k < 319 → (mf_sh k).1 = 4 → k + 4 ≤ 319 ∧ mf_sh (k + 1) = (20, 1600) ∧ mf_sh (k + 2) = (20, 4) ∧ mf_sh (k + 3) = (20, 4) := by decide +kernel
theorem st_is0 {a : Int} (h : mf_is 319 a 6) : mf_is 319 (a + 1) 20 := by
  obtain ⟨k, rfl, h1, h2⟩ := mf_isI h
  have h3 := st_all k h1 h2
  exact mf_isN (k := k + 1) (by omega) (by rw [h3.2.1])
theorem st_len0 {a : Int} (h : mf_is 319 a 6) : mf_len (a + 1) = 6 := by
  obtain ⟨k, rfl, h1, h2⟩ := mf_isI h
  have h3 := st_all k h1 h2
  have h4 := mf_lenN (k + 1)
  rw [h3.2.1] at h4
  exact h4
theorem st_is1 {a : Int} (h : mf_is 319 a 6) : mf_is 319 (a + 2) 20 := by
  obtain ⟨k, rfl, h1, h2⟩ := mf_isI h
  have h3 := st_all k h1 h2
  exact mf_isN (k := k + 2) (by omega) (by rw [h3.2.2.1])
theorem st_len1 {a : Int} (h : mf_is 319 a 6) : mf_len (a + 2) = 8 := by
  obtain ⟨k, rfl, h1, h2⟩ := mf_isI h
  have h3 := st_all k h1 h2
  have h4 := mf_lenN (k + 2)
  rw [h3.2.2.1] at h4
  exact h4
theorem st_is2 {a : Int} (h : mf_is 319 a 6) : mf_is 319 (a + 3) 20 := by
  obtain ⟨k, rfl, h1, h2⟩ := mf_isI h
  have h3 := st_all k h1 h2
  exact mf_isN (k := k + 3) (by omega) (by rw [h3.2.2.2.1])
theorem st_len2 {a : Int} (h : mf_is 319 a 6) : mf_len (a + 3) = 8 := by
  obtain ⟨k, rfl, h1, h2⟩ := mf_isI h
  have h3 := st_all k h1 h2
  have h4 := mf_lenN (k + 3)
  rw [h3.2.2.2.1] at h4
  exact h4
theorem st_is3 {a : Int} (h : mf_is 319 a 6) : mf_is 319 (a + 4) 20 := by
  obtain ⟨k, rfl, h1, h2⟩ := mf_isI h
  have h3 := st_all k h1 h2
  exact mf_isN (k := k + 4) (by omega) (by rw [h3.2.2.2.2.1])
theorem st_len3 {a : Int} (h : mf_is 319 a 6) : mf_len (a + 4) = 8 := by
  obtain ⟨k, rfl, h1, h2⟩ := mf_isI h
  have h3 := st_all k h1 h2
  have h4 := mf_lenN (k + 4)
  rw [h3.2.2.2.2.1] at h4
  exact h4
theorem st_is4 {a : Int} (h : mf_is 319 a 6) : mf_is 319 (a + 5) 20 := by
  obtain ⟨k, rfl, h1, h2⟩ := mf_isI h
  have h3 := st_all k h1 h2
  exact mf_isN (k := k + 5) (by omega) (by rw [h3.2.2.2.2.2.1])
theorem st_len4 {a : Int} (h : mf_is 319 a 6) : mf_len (a + 5) = 8 := by
  obtain ⟨k, rfl, h1, h2⟩ := mf_isI h
  have h3 := st_all k h1 h2
  have h4 := mf_lenN (k + 5)
  rw [h3.2.2.2.2.2.1] at h4
  exact h4
theorem st_is5 {a : Int} (h : mf_is 319 a 6) : mf_is 319 (a + 6) 20 := by
  obtain ⟨k, rfl, h1, h2⟩ := mf_isI h
  have h3 := st_all k h1 h2
  exact mf_isN (k := k + 6) (by omega) (by rw [h3.2.2.2.2.2.2])
theorem st_len5 {a : Int} (h : mf_is 319 a 6) : mf_len (a + 6) = 40 := by
  obtain ⟨k, rfl, h1, h2⟩ := mf_isI h
  have h3 := st_all k h1 h2
  have h4 := mf_lenN (k + 6)
  rw [h3.2.2.2.2.2.2] at h4
  exact h4
theorem fo_is0 {a : Int} (h : mf_is 319 a 1) : mf_is 319 (a + 1) 20 := by
  obtain ⟨k, rfl, h1, h2⟩ := mf_isI h
  have h3 := fo_all k h1 h2
  exact mf_isN (k := k + 1) (by omega) (by rw [h3.2.1])
theorem fo_len0 {a : Int} (h : mf_is 319 a 1) : mf_len (a + 1) = 12 := by
  obtain ⟨k, rfl, h1, h2⟩ := mf_isI h
  have h3 := fo_all k h1 h2
  have h4 := mf_lenN (k + 1)
  rw [h3.2.1] at h4
  exact h4
theorem fo_is1 {a : Int} (h : mf_is 319 a 1) : mf_is 319 (a + 2) 20 := by
  obtain ⟨k, rfl, h1, h2⟩ := mf_isI h
  have h3 := fo_all k h1 h2
  exact mf_isN (k := k + 2) (by omega) (by rw [h3.2.2.1])
theorem fo_len1 {a : Int} (h : mf_is 319 a 1) : mf_len (a + 2) = 12 := by
  obtain ⟨k, rfl, h1, h2⟩ := mf_isI h
  have h3 := fo_all k h1 h2
  have h4 := mf_lenN (k + 2)
  rw [h3.2.2.1] at h4
  exact h4
theorem fo_is2 {a : Int} (h : mf_is 319 a 1) : mf_is 319 (a + 3) 20 := by
  obtain ⟨k, rfl, h1, h2⟩ := mf_isI h
  have h3 := fo_all k h1 h2
  exact mf_isN (k := k + 3) (by omega) (by rw [h3.2.2.2.1])
theorem fo_len2 {a : Int} (h : mf_is 319 a 1) : mf_len (a + 3) = 12 := by
  obtain ⟨k, rfl, h1, h2⟩ := mf_isI h
  have h3 := fo_all k h1 h2
  have h4 := mf_lenN (k + 3)
  rw [h3.2.2.2.1] at h4
  exact h4
theorem fo_is3 {a : Int} (h : mf_is 319 a 1) : mf_is 319 (a + 4) 20 := by
  obtain ⟨k, rfl, h1, h2⟩ := mf_isI h
  have h3 := fo_all k h1 h2
  exact mf_isN (k := k + 4) (by omega) (by rw [h3.2.2.2.2.1])
theorem fo_len3 {a : Int} (h : mf_is 319 a 1) : mf_len (a + 4) = 8 := by
  obtain ⟨k, rfl, h1, h2⟩ := mf_isI h
  have h3 := fo_all k h1 h2
  have h4 := mf_lenN (k + 4)
  rw [h3.2.2.2.2.1] at h4
  exact h4
theorem fo_is4 {a : Int} (h : mf_is 319 a 1) : mf_is 319 (a + 5) 20 := by
  obtain ⟨k, rfl, h1, h2⟩ := mf_isI h
  have h3 := fo_all k h1 h2
  exact mf_isN (k := k + 5) (by omega) (by rw [h3.2.2.2.2.2.1])
theorem fo_len4 {a : Int} (h : mf_is 319 a 1) : mf_len (a + 5) = 8 := by
  obtain ⟨k, rfl, h1, h2⟩ := mf_isI h
  have h3 := fo_all k h1 h2
  have h4 := mf_lenN (k + 5)
  rw [h3.2.2.2.2.2.1] at h4
  exact h4
theorem sc_is0 {a : Int} (h : mf_is 319 a 4) : mf_is 319 (a + 1) 20 := by
  obtain ⟨k, rfl, h1, h2⟩ := mf_isI h
  have h3 := sc_all k h1 h2
  exact mf_isN (k := k + 1) (by omega) (by rw [h3.2.1])
theorem sc_len0 {a : Int} (h : mf_is 319 a 4) : mf_len (a + 1) = 1600 := by
  obtain ⟨k, rfl, h1, h2⟩ := mf_isI h
  have h3 := sc_all k h1 h2
  have h4 := mf_lenN (k + 1)
  rw [h3.2.1] at h4
  exact h4
theorem sc_is1 {a : Int} (h : mf_is 319 a 4) : mf_is 319 (a + 2) 20 := by
  obtain ⟨k, rfl, h1, h2⟩ := mf_isI h
  have h3 := sc_all k h1 h2
  exact mf_isN (k := k + 2) (by omega) (by rw [h3.2.2.1])
theorem sc_len1 {a : Int} (h : mf_is 319 a 4) : mf_len (a + 2) = 4 := by
  obtain ⟨k, rfl, h1, h2⟩ := mf_isI h
  have h3 := sc_all k h1 h2
  have h4 := mf_lenN (k + 2)
  rw [h3.2.2.1] at h4
  exact h4
theorem sc_is2 {a : Int} (h : mf_is 319 a 4) : mf_is 319 (a + 3) 20 := by
  obtain ⟨k, rfl, h1, h2⟩ := mf_isI h
  have h3 := sc_all k h1 h2
  exact mf_isN (k := k + 3) (by omega) (by rw [h3.2.2.2])
theorem sc_len2 {a : Int} (h : mf_is 319 a 4) : mf_len (a + 3) = 4 := by
  obtain ⟨k, rfl, h1, h2⟩ := mf_isI h
  have h3 := sc_all k h1 h2
  have h4 := mf_lenN (k + 3)
  rw [h3.2.2.2] at h4
  exact h4
theorem fo_is5 {a : Int} (h : mf_is 319 a 1) : mf_is 319 (a + 6) 4 := by
  obtain ⟨k, rfl, h1, h2⟩ := mf_isI h
  have h3 := fo_all k h1 h2
  exact mf_isN (k := k + 6) (by omega) h3.2.2.2.2.2.2.1
theorem fo_is6 {a : Int} (h : mf_is 319 a 1) : mf_is 319 (a + 10) 6 := by
  obtain ⟨k, rfl, h1, h2⟩ := mf_isI h
  have h3 := fo_all k h1 h2
  exact mf_isN (k := k + 10) (by omega) h3.2.2.2.2.2.2.2
theorem act_all : ∀ k, k < 20 → (mf_sh (103 + 7 * k)).1 = 6 := by decide +kernel
theorem tri_all : ∀ k, k < 3 → (mf_sh (67 + 7 * k)).1 = 6 := by decide +kernel
theorem act_is {i : Int} (h0 : 0 ≤ i) (h1 : i < 20) : mf_is 319 (103 + 7 * i) 6 := by
  obtain ⟨k, rfl⟩ : ∃ k : Nat, i = (k : Int) := ⟨i.toNat, by omega⟩
  exact mf_isN (k := 103 + 7 * k) (by omega) (act_all k (by omega))
theorem tri_is {i : Int} (h0 : 0 ≤ i) (h1 : i < 3) : mf_is 319 (67 + 7 * i) 6 := by
  obtain ⟨k, rfl⟩ : ∃ k : Nat, i = (k : Int) := ⟨i.toNat, by omega⟩
  exact mf_isN (k := 67 + 7 * k) (by omega) (tri_all k (by omega))
/-- the reference's contracts: its pointers stay -/
def mM (C : mf_G) (l : Launch) (d : Nat) (Y : mf_Y) (as : List mf_AV) (h : mf_M) (K : Int → mf_M → Prop) : Prop := ∀ g, mf_GM g → mf_MT C l d Y as 319 319 g h (fun r g' h' => g' = g ∧ K r h')
def jM (C : mf_G) (l : Launch) (d : Nat) (Y : mf_Y) (K : Int → mf_M → Prop) (pc : Nat) (lv : List (Nat × mf_AV)) (st : List mf_AV) (h : mf_M) : Prop := ∀ g, mf_GM g → mf_AW C l Y (mf_rm d 319 319) 319 (mf_Zm C Y 319 319 (fun r g' h' => g' = g ∧ K r h')) (fun _ _ => True) pc lv st 319 g h
/-- the class's: what is final stays -/
def xM (C : mf_G) (l : Launch) (d : Nat) (Y : mf_Y) (as : List mf_AV) (g h : mf_M) (K : mf_Kt) : Prop := mf_GX g → mf_MT C l d Y as 319 319 g h (fun r g' h' => mf_GX g' ∧ K r g' h')
def jX (C : mf_G) (l : Launch) (d : Nat) (Y : mf_Y) (K : mf_Kt) (pc : Nat) (lv : List (Nat × mf_AV)) (st : List mf_AV) (g h : mf_M) : Prop := mf_GX g → mf_AW C l Y (mf_rm d 319 319) 319 (mf_Zm C Y 319 319 (fun r g' h' => mf_GX g' ∧ K r g' h')) (fun _ _ => True) pc lv st 319 g h
theorem mM.mono {C : mf_G} {l : Launch} {d : Nat} {Y : mf_Y} {as : List mf_AV} {h : mf_M} {K K' : Int → mf_M → Prop} (hK : ∀ r h', K r h' → K' r h') (hM : mM C l d Y as h K) : mM C l d Y as h K' := fun g hg => mf_MT.mono (fun r g' h' q => ⟨q.1, hK _ _ q.2⟩) (hM g hg)
theorem xM.mono {C : mf_G} {l : Launch} {d : Nat} {Y : mf_Y} {as : List mf_AV} {g h : mf_M} {K K' : mf_Kt} (hK : ∀ r g' h', K r g' h' → K' r g' h') (hM : xM C l d Y as g h K) : xM C l d Y as g h K' := fun hg => mf_MT.mono (fun r g' h' q => ⟨q.1, hK _ _ _ q.2⟩) (hM hg)
theorem mf_GX.up {g : mf_M} {a k v : Int} (h : mf_GX g) (hk : (a = 0 ∧ (k = 12 ∨ k = 13)) ∨ (a = 10 ∧ k = 2) ∨ (a = 45 ∧ k = 3)) : mf_GX (mf_up g a k v) := by
  have e : ∀ b j : Int, ¬ (b = a ∧ j = k) → mf_up g a k v b j = g b j := by
    intro b j hb
    by_cases h1 : b = a
    · subst h1
      exact mf_up_off (fun h2 => hb ⟨rfl, h2⟩)
    · rw [mf_up_ne h1]
  have nis : ∀ c : Nat, (c = 6 ∨ c = 1 ∨ c = 4) → ¬ mf_is 319 a c := by
    intro c hc hq
    obtain ⟨h1, h2, h3⟩ := hq
    rcases hk with ⟨rfl, _⟩ | ⟨rfl, _⟩ | ⟨rfl, _⟩ <;> rcases hc with rfl | rfl | rfl <;> revert h3 <;> decide
  have px : ∀ q ∈ mf_px, ¬ (q.1 = a ∧ q.2.1 = k) := by
    have hall : mf_px.all (fun q => !(decide (q.1 = 0 ∧ (q.2.1 = 12 ∨ q.2.1 = 13))) && !(decide (q.1 = 10 ∧ q.2.1 = 2)) && !(decide (q.1 = 45 ∧ q.2.1 = 3))) = true := by decide +kernel
    intro q hq h1
    have h2 := List.all_eq_true.mp hall q hq
    simp only [Bool.and_eq_true, Bool.not_eq_true', decide_eq_false_iff_not] at h2
    rw [h1.1, h1.2] at h2
    rcases hk with h3 | h3 | h3
    · exact h2.1.1 h3
    · exact h2.1.2 h3
    · exact h2.2 h3
  refine ⟨fun q hq => by rw [e _ _ (px q hq)]; exact h.1 q hq, fun b hb => ?_, fun b hb => ?_, fun b hb => ?_, fun i h0 h1 => ?_, fun i h0 h1 => ?_⟩
  · have hne : b ≠ a := fun z => nis 6 (Or.inl rfl) (z ▸ hb)
    rw [mf_up_ne hne]; exact h.2.1 b hb
  · have hne : b ≠ a := fun z => nis 1 (Or.inr (Or.inl rfl)) (z ▸ hb)
    rw [mf_up_ne hne]; exact h.2.2.1 b hb
  · have hne : b ≠ a := fun z => nis 4 (Or.inr (Or.inr rfl)) (z ▸ hb)
    rw [mf_up_ne hne]; exact h.2.2.2.1 b hb
  · rw [mf_up_ne (by omega)]; exact h.2.2.2.2.1 i h0 h1
  · rw [mf_up_ne (by omega)]; exact h.2.2.2.2.2 i h0 h1
