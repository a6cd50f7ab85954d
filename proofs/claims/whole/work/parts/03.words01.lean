set_option maxRecDepth 20000 in
theorem wd_904 : Cond.methodLink "OnlyFar$Road" 25 Lib.Math.max.name ∈ Com := com_4 115 (by decide +kernel) (by decide +kernel)
set_option maxRecDepth 20000 in
theorem wd_905 : Cond.methodLink "OnlyFar$Road" 31 yX5_farthest ∈ Com := com_4 116 (by decide +kernel) (by decide +kernel)
set_option maxRecDepth 20000 in
theorem wd_906 : Cond.instanceMethod yX5_farthest ∈ Com := com_4 117 (by decide +kernel) (by decide +kernel)
set_option maxRecDepth 20000 in
theorem wd_907 : Cond.selects "OnlyFar$Road" yX5_farthest yX5_farthest ∈ Com := com_4 118 (by decide +kernel) (by decide +kernel)
set_option maxRecDepth 20000 in
theorem wd_908 : Cond.code yX5_farthest prog_7_method_4_code 3 (some .int) ∈ Com := com_4 119 (by decide +kernel) (by decide +kernel)
set_option maxRecDepth 20000 in
theorem wd_909 : Cond.methodLink "OnlyFar" 319 yX5_farthest ∈ Com := com_4 120 (by decide +kernel) (by decide +kernel)
set_option maxRecDepth 20000 in
theorem wd_910 : Cond.methodLink "OnlyFarLaw" 152 yX10_reaches ∈ Com := com_4 121 (by decide +kernel) (by decide +kernel)
set_option maxRecDepth 20000 in
theorem wd_911 : Cond.instanceMethod yX10_reaches ∈ Com := com_4 122 (by decide +kernel) (by decide +kernel)
set_option maxRecDepth 20000 in
theorem wd_912 : Cond.selects "OnlyFar" yX10_reaches yX10_reaches ∈ Com := com_4 123 (by decide +kernel) (by decide +kernel)
set_option maxRecDepth 20000 in
theorem wd_913 : Cond.code yX10_reaches prog_1_method_34_code 6 (some .int) ∈ Com := com_4 124 (by decide +kernel) (by decide +kernel)
set_option maxRecDepth 20000 in
theorem wd_914 : Cond.methodLink "OnlyFarLaw" 156 yX10_keep ∈ Com := com_4 125 (by decide +kernel) (by decide +kernel)
set_option maxRecDepth 20000 in
theorem wd_915 : Cond.instanceMethod yX10_keep ∈ Com := com_4 126 (by decide +kernel) (by decide +kernel)
set_option maxRecDepth 20000 in
theorem wd_916 : Cond.selects "OnlyFar" yX10_keep yX10_keep ∈ Com := com_4 127 (by decide +kernel) (by decide +kernel)
set_option maxRecDepth 20000 in
theorem wd_917 : Cond.code yX10_keep prog_1_method_35_code 4 (some .int) ∈ Com := com_4 128 (by decide +kernel) (by decide +kernel)
set_option maxRecDepth 20000 in
theorem wd_918 : Cond.methodLink "OnlyFar" 323 yX5_copyFrom ∈ Com := com_4 129 (by decide +kernel) (by decide +kernel)
set_option maxRecDepth 20000 in
theorem wd_919 : Cond.instanceMethod yX5_copyFrom ∈ Com := com_4 130 (by decide +kernel) (by decide +kernel)
set_option maxRecDepth 20000 in
theorem wd_920 : Cond.selects "OnlyFar$Road" yX5_copyFrom yX5_copyFrom ∈ Com := com_4 131 (by decide +kernel) (by decide +kernel)
set_option maxRecDepth 20000 in
theorem wd_921 : Cond.code yX5_copyFrom prog_7_method_2_code 2 none ∈ Com := com_4 132 (by decide +kernel) (by decide +kernel)
set_option maxRecDepth 20000 in
theorem wd_922 : Cond.methodLink "OnlyFar$Road" 19 arraycopyName ∈ Com := com_4 133 (by decide +kernel) (by decide +kernel)
set_option maxRecDepth 20000 in
theorem wd_923 : Cond.methodLink "OnlyFarLaw" 160 yX10_back ∈ Com := com_4 134 (by decide +kernel) (by decide +kernel)
set_option maxRecDepth 20000 in
theorem wd_924 : Cond.instanceMethod yX10_back ∈ Com := com_4 135 (by decide +kernel) (by decide +kernel)
set_option maxRecDepth 20000 in
theorem wd_925 : Cond.selects "OnlyFar" yX10_back yX10_back ∈ Com := com_4 136 (by decide +kernel) (by decide +kernel)
set_option maxRecDepth 20000 in
theorem wd_926 : Cond.code yX10_back prog_1_method_36_code 3 (some .int) ∈ Com := com_4 137 (by decide +kernel) (by decide +kernel)
set_option maxRecDepth 20000 in
theorem wd_927 : Cond.methodLink "OnlyFar" 326 yX8_countTold ∈ Com := com_4 138 (by decide +kernel) (by decide +kernel)
set_option maxRecDepth 20000 in
theorem wd_928 : Cond.instanceMethod yX8_countTold ∈ Com := com_4 139 (by decide +kernel) (by decide +kernel)
set_option maxRecDepth 20000 in
theorem wd_929 : Cond.selects "OnlyFar$Table" yX8_countTold yX8_countTold ∈ Com := com_4 140 (by decide +kernel) (by decide +kernel)
set_option maxRecDepth 20000 in
theorem wd_930 : Cond.code yX8_countTold prog_10_method_11_code 4 (some .int) ∈ Com := com_4 141 (by decide +kernel) (by decide +kernel)
set_option maxRecDepth 20000 in
theorem wd_932 : Cond.methodLink "OnlyFarLaw" 164 yX10_sheet ∈ Com := com_4 143 (by decide +kernel) (by decide +kernel)
set_option maxRecDepth 20000 in
theorem wd_933 : Cond.instanceMethod yX10_sheet ∈ Com := com_4 144 (by decide +kernel) (by decide +kernel)
set_option maxRecDepth 20000 in
theorem wd_934 : Cond.selects "OnlyFar" yX10_sheet yX10_sheet ∈ Com := com_4 145 (by decide +kernel) (by decide +kernel)
set_option maxRecDepth 20000 in
theorem wd_935 : Cond.code yX10_sheet prog_1_method_37_code 4 (some .int) ∈ Com := com_4 146 (by decide +kernel) (by decide +kernel)
set_option maxRecDepth 20000 in
theorem wd_936 : Cond.methodLink "OnlyFar" 329 yX10_isSheet ∈ Com := com_4 147 (by decide +kernel) (by decide +kernel)
set_option maxRecDepth 20000 in
theorem wd_937 : Cond.static yX10_isSheet ∈ Com := com_4 148 (by decide +kernel) (by decide +kernel)
set_option maxRecDepth 20000 in
theorem wd_938 : Cond.code yX10_isSheet prog_1_method_46_code 1 (some .boolean) ∈ Com := com_4 149 (by decide +kernel) (by decide +kernel)
set_option maxRecDepth 20000 in
theorem wd_939 : Cond.methodLink "OnlyFar" 332 yX10_isLane ∈ Com := com_4 150 (by decide +kernel) (by decide +kernel)
set_option maxRecDepth 20000 in
theorem wd_940 : Cond.static yX10_isLane ∈ Com := com_4 151 (by decide +kernel) (by decide +kernel)
set_option maxRecDepth 20000 in
theorem wd_941 : Cond.code yX10_isLane prog_1_method_47_code 1 (some .boolean) ∈ Com := com_4 152 (by decide +kernel) (by decide +kernel)
set_option maxRecDepth 20000 in
theorem wd_942 : Cond.methodLink "OnlyFar" 335 yX6_renew ∈ Com := com_4 153 (by decide +kernel) (by decide +kernel)
set_option maxRecDepth 20000 in
theorem wd_943 : Cond.instanceMethod yX6_renew ∈ Com := com_4 154 (by decide +kernel) (by decide +kernel)
set_option maxRecDepth 20000 in
theorem wd_944 : Cond.selects "OnlyFar$Sheet" yX6_renew yX6_renew ∈ Com := com_4 155 (by decide +kernel) (by decide +kernel)
set_option maxRecDepth 20000 in
theorem wd_945 : Cond.code yX6_renew prog_8_method_2_code 3 none ∈ Com := com_4 156 (by decide +kernel) (by decide +kernel)
set_option maxRecDepth 20000 in
theorem wd_946 : Cond.methodLink "OnlyFar$Sheet" 22 yJ7_fill_53178 ∈ Com := com_4 157 (by decide +kernel) (by decide +kernel)
set_option maxRecDepth 20000 in
theorem wd_947 : Cond.methodLink "OnlyFarLaw" 168 yX10_lay ∈ Com := com_4 158 (by decide +kernel) (by decide +kernel)
set_option maxRecDepth 20000 in
theorem wd_948 : Cond.instanceMethod yX10_lay ∈ Com := com_4 159 (by decide +kernel) (by decide +kernel)
set_option maxRecDepth 20000 in
theorem wd_949 : Cond.selects "OnlyFar" yX10_lay yX10_lay ∈ Com := com_4 160 (by decide +kernel) (by decide +kernel)
set_option maxRecDepth 20000 in
theorem wd_950 : Cond.code yX10_lay prog_1_method_38_code 5 (some .int) ∈ Com := com_4 161 (by decide +kernel) (by decide +kernel)
set_option maxRecDepth 20000 in
theorem wd_951 : Cond.methodLink "OnlyFar" 339 yX6_write ∈ Com := com_4 162 (by decide +kernel) (by decide +kernel)
set_option maxRecDepth 20000 in
theorem wd_952 : Cond.instanceMethod yX6_write ∈ Com := com_4 163 (by decide +kernel) (by decide +kernel)
set_option maxRecDepth 20000 in
theorem wd_953 : Cond.selects "OnlyFar$Sheet" yX6_write yX6_write ∈ Com := com_4 164 (by decide +kernel) (by decide +kernel)
set_option maxRecDepth 20000 in
theorem wd_954 : Cond.code yX6_write prog_8_method_3_code 3 (some .int) ∈ Com := com_4 165 (by decide +kernel) (by decide +kernel)
set_option maxRecDepth 20000 in
theorem wd_955 : Cond.methodLink "OnlyFarLaw" 172 yX10_read ∈ Com := com_4 166 (by decide +kernel) (by decide +kernel)
set_option maxRecDepth 20000 in
theorem wd_956 : Cond.instanceMethod yX10_read ∈ Com := com_4 167 (by decide +kernel) (by decide +kernel)
set_option maxRecDepth 20000 in
theorem wd_957 : Cond.selects "OnlyFar" yX10_read yX10_read ∈ Com := com_4 168 (by decide +kernel) (by decide +kernel)
set_option maxRecDepth 20000 in
theorem wd_958 : Cond.code yX10_read prog_1_method_39_code 10 (some .int) ∈ Com := com_4 169 (by decide +kernel) (by decide +kernel)
set_option maxRecDepth 20000 in
theorem wd_959 : Cond.methodLink "OnlyFar" 342 yX6_faultAs ∈ Com := com_4 170 (by decide +kernel) (by decide +kernel)
set_option maxRecDepth 20000 in
theorem wd_960 : Cond.instanceMethod yX6_faultAs ∈ Com := com_4 171 (by decide +kernel) (by decide +kernel)
set_option maxRecDepth 20000 in
theorem wd_961 : Cond.selects "OnlyFar$Sheet" yX6_faultAs yX6_faultAs ∈ Com := com_4 172 (by decide +kernel) (by decide +kernel)
set_option maxRecDepth 20000 in
theorem wd_962 : Cond.code yX6_faultAs prog_8_method_4_code 2 (some .int) ∈ Com := com_4 173 (by decide +kernel) (by decide +kernel)
set_option maxRecDepth 20000 in
theorem wd_963 : Cond.methodLink "OnlyFar" 345 yX6_wholeLengths ∈ Com := com_4 174 (by decide +kernel) (by decide +kernel)
set_option maxRecDepth 20000 in
theorem wd_964 : Cond.instanceMethod yX6_wholeLengths ∈ Com := com_4 175 (by decide +kernel) (by decide +kernel)
set_option maxRecDepth 20000 in
theorem wd_965 : Cond.selects "OnlyFar$Sheet" yX6_wholeLengths yX6_wholeLengths ∈ Com := com_4 176 (by decide +kernel) (by decide +kernel)
set_option maxRecDepth 20000 in
theorem wd_966 : Cond.code yX6_wholeLengths prog_8_method_5_code 3 (some .int) ∈ Com := com_4 177 (by decide +kernel) (by decide +kernel)
set_option maxRecDepth 20000 in
theorem wd_967 : Cond.methodLink "OnlyFar$Sheet" 28 Lib.Math.min.name ∈ Com := com_4 178 (by decide +kernel) (by decide +kernel)
set_option maxRecDepth 20000 in
theorem wd_968 : Cond.methodLink "OnlyFar" 348 yX10_isGoodLength ∈ Com := com_4 179 (by decide +kernel) (by decide +kernel)
set_option maxRecDepth 20000 in
theorem wd_970 : Cond.instanceMethod yX10_isGoodLength ∈ Com := com_4 181 (by decide +kernel) (by decide +kernel)
set_option maxRecDepth 20000 in
theorem wd_971 : Cond.code yX10_isGoodLength prog_1_method_48_code 3 (some .boolean) ∈ Com := com_4 182 (by decide +kernel) (by decide +kernel)
set_option maxRecDepth 20000 in
theorem wd_972 : Cond.methodLink "OnlyFar" 352 yX6_cell ∈ Com := com_4 183 (by decide +kernel) (by decide +kernel)
set_option maxRecDepth 20000 in
theorem wd_973 : Cond.instanceMethod yX6_cell ∈ Com := com_4 184 (by decide +kernel) (by decide +kernel)
set_option maxRecDepth 20000 in
theorem wd_974 : Cond.selects "OnlyFar$Sheet" yX6_cell yX6_cell ∈ Com := com_4 185 (by decide +kernel) (by decide +kernel)
set_option maxRecDepth 20000 in
theorem wd_975 : Cond.code yX6_cell prog_8_method_6_code 2 (some .int) ∈ Com := com_4 186 (by decide +kernel) (by decide +kernel)
set_option maxRecDepth 20000 in
theorem wd_976 : Cond.methodLink "OnlyFarLaw" 176 yX10_torn ∈ Com := com_4 187 (by decide +kernel) (by decide +kernel)
set_option maxRecDepth 20000 in
theorem wd_977 : Cond.instanceMethod yX10_torn ∈ Com := com_4 188 (by decide +kernel) (by decide +kernel)
set_option maxRecDepth 20000 in
theorem wd_978 : Cond.selects "OnlyFar" yX10_torn yX10_torn ∈ Com := com_4 189 (by decide +kernel) (by decide +kernel)
set_option maxRecDepth 20000 in
theorem wd_979 : Cond.code yX10_torn prog_1_method_40_code 1 (some .int) ∈ Com := com_4 190 (by decide +kernel) (by decide +kernel)
set_option maxRecDepth 20000 in
theorem wd_980 : Cond.methodLink "OnlyFarLaw" 180 yX10_count ∈ Com := com_4 191 (by decide +kernel) (by decide +kernel)
set_option maxRecDepth 20000 in
theorem wd_981 : Cond.instanceMethod yX10_count ∈ Com := com_4 192 (by decide +kernel) (by decide +kernel)
set_option maxRecDepth 20000 in
theorem wd_982 : Cond.selects "OnlyFar" yX10_count yX10_count ∈ Com := com_4 193 (by decide +kernel) (by decide +kernel)
set_option maxRecDepth 20000 in
theorem wd_983 : Cond.code yX10_count prog_1_method_41_code 2 (some .int) ∈ Com := com_4 194 (by decide +kernel) (by decide +kernel)
set_option maxRecDepth 20000 in
theorem wd_984 : Cond.classLink "OnlyFarLaw" 10 "OnlyFarModel" ∈ Com := com_4 195 (by decide +kernel) (by decide +kernel)
set_option maxRecDepth 20000 in
theorem wd_985 : Cond.instantiable "OnlyFarModel" 30 ∈ Com := com_4 196 (by decide +kernel) (by decide +kernel)
set_option maxRecDepth 20000 in
theorem wd_986 : Cond.methodLink "OnlyFarLaw" 12 yX11_init ∈ Com := com_4 197 (by decide +kernel) (by decide +kernel)
set_option maxRecDepth 20000 in
theorem wd_987 : Cond.instanceMethod yX11_init ∈ Com := com_4 198 (by decide +kernel) (by decide +kernel)
set_option maxRecDepth 20000 in
theorem wd_988 : Cond.code yX11_init prog_13_method_1_code 1 none ∈ Com := com_4 199 (by decide +kernel) (by decide +kernel)
set_option maxRecDepth 20000 in
theorem wd_989 : Cond.methodLink "OnlyFarModel" 1 objectInit ∈ Com := com_4 200 (by decide +kernel) (by decide +kernel)
set_option maxRecDepth 20000 in
theorem wd_990 : Cond.fieldLink "OnlyFarModel" 7 "OnlyFarModel" "state" "[I" ∈ Com := com_4 201 (by decide +kernel) (by decide +kernel)
set_option maxRecDepth 20000 in
theorem wd_991 : Cond.fieldLink "OnlyFarModel" 13 "OnlyFarModel" "readPage" "[I" ∈ Com := com_4 202 (by decide +kernel) (by decide +kernel)
set_option maxRecDepth 20000 in
theorem wd_992 : Cond.fieldLink "OnlyFarModel" 56 "OnlyFarModel" "isAwake" "Z" ∈ Com := com_4 203 (by decide +kernel) (by decide +kernel)
set_option maxRecDepth 20000 in
theorem wd_993 : Cond.fieldLink "OnlyFarModel" 16 "OnlyFarModel" "tape" "[I" ∈ Com := com_4 204 (by decide +kernel) (by decide +kernel)
set_option maxRecDepth 20000 in
theorem wd_994 : Cond.fieldLink "OnlyFarModel" 60 "OnlyFarModel" "taped" "I" ∈ Com := com_4 205 (by decide +kernel) (by decide +kernel)
set_option maxRecDepth 20000 in
theorem wd_995 : Cond.fieldLink "OnlyFarModel" 132 "OnlyFarModel" "fault" "I" ∈ Com := com_4 206 (by decide +kernel) (by decide +kernel)
set_option maxRecDepth 20000 in
theorem wd_996 : Cond.fieldLink "OnlyFarModel" 68 "OnlyFarModel" "broken" "I" ∈ Com := com_4 207 (by decide +kernel) (by decide +kernel)
set_option maxRecDepth 20000 in
theorem wd_997 : Cond.fieldLink "OnlyFarModel" 74 "OnlyFarModel" "brokenAt" "I" ∈ Com := com_4 208 (by decide +kernel) (by decide +kernel)
set_option maxRecDepth 20000 in
theorem wd_998 : Cond.fieldLink "OnlyFarModel" 80 "OnlyFarModel" "spot" "I" ∈ Com := com_4 209 (by decide +kernel) (by decide +kernel)
set_option maxRecDepth 20000 in
theorem wd_999 : Cond.fieldLink "OnlyFarModel" 71 "OnlyFarModel" "here" "I" ∈ Com := com_4 210 (by decide +kernel) (by decide +kernel)
set_option maxRecDepth 20000 in
theorem wd_1000 : Cond.fieldLink "OnlyFarModel" 77 "OnlyFarModel" "token" "I" ∈ Com := com_4 211 (by decide +kernel) (by decide +kernel)
set_option maxRecDepth 20000 in
theorem wd_1001 : Cond.fieldLink "OnlyFarModel" 87 "OnlyFarModel" "value" "I" ∈ Com := com_4 212 (by decide +kernel) (by decide +kernel)
set_option maxRecDepth 20000 in
theorem wd_1002 : Cond.fieldLink "OnlyFarModel" 19 "OnlyFarModel" "letters" "[I" ∈ Com := com_4 213 (by decide +kernel) (by decide +kernel)
set_option maxRecDepth 20000 in
theorem wd_1003 : Cond.fieldLink "OnlyFarModel" 123 "OnlyFarModel" "hasPlaces" "Z" ∈ Com := com_4 214 (by decide +kernel) (by decide +kernel)
set_option maxRecDepth 20000 in
theorem wd_1004 : Cond.fieldLink "OnlyFarModel" 116 "OnlyFarModel" "highest" "I" ∈ Com := com_4 215 (by decide +kernel) (by decide +kernel)
set_option maxRecDepth 20000 in
theorem wd_1005 : Cond.fieldLink "OnlyFarModel" 22 "OnlyFarModel" "sums" "[I" ∈ Com := com_4 216 (by decide +kernel) (by decide +kernel)
set_option maxRecDepth 20000 in
theorem wd_1006 : Cond.fieldLink "OnlyFarModel" 25 "OnlyFarModel" "aside" "[I" ∈ Com := com_4 217 (by decide +kernel) (by decide +kernel)
set_option maxRecDepth 20000 in
theorem wd_1007 : Cond.fieldLink "OnlyFarModel" 28 "OnlyFarModel" "groups" "[I" ∈ Com := com_4 218 (by decide +kernel) (by decide +kernel)
set_option maxRecDepth 20000 in
theorem wd_1008 : Cond.fieldLink "OnlyFarModel" 31 "OnlyFarModel" "sides" "[I" ∈ Com := com_4 219 (by decide +kernel) (by decide +kernel)
set_option maxRecDepth 20000 in
theorem wd_1009 : Cond.fieldLink "OnlyFarModel" 247 "OnlyFarModel" "laid" "I" ∈ Com := com_4 220 (by decide +kernel) (by decide +kernel)
set_option maxRecDepth 20000 in
theorem wd_1010 : Cond.fieldLink "OnlyFarModel" 256 "OnlyFarModel" "groupMany" "I" ∈ Com := com_4 221 (by decide +kernel) (by decide +kernel)
set_option maxRecDepth 20000 in
theorem wd_1011 : Cond.fieldLink "OnlyFarModel" 253 "OnlyFarModel" "isDrawn" "Z" ∈ Com := com_4 222 (by decide +kernel) (by decide +kernel)
set_option maxRecDepth 20000 in
theorem wd_1012 : Cond.fieldLink "OnlyFarModel" 34 "OnlyFarModel" "names" "[I" ∈ Com := com_4 223 (by decide +kernel) (by decide +kernel)
set_option maxRecDepth 20000 in
theorem wd_1013 : Cond.fieldLink "OnlyFarModel" 37 "OnlyFarModel" "firstNames" "[I" ∈ Com := com_4 224 (by decide +kernel) (by decide +kernel)
set_option maxRecDepth 20000 in
theorem wd_1014 : Cond.fieldLink "OnlyFarModel" 40 "OnlyFarModel" "isKept" "[Z" ∈ Com := com_4 225 (by decide +kernel) (by decide +kernel)
set_option maxRecDepth 20000 in
theorem wd_1015 : Cond.fieldLink "OnlyFarModel" 44 "OnlyFarModel" "lanes" "[I" ∈ Com := com_4 226 (by decide +kernel) (by decide +kernel)
set_option maxRecDepth 20000 in
theorem wd_1016 : Cond.fieldLink "OnlyFarModel" 47 "OnlyFarModel" "lengths" "[I" ∈ Com := com_4 227 (by decide +kernel) (by decide +kernel)
set_option maxRecDepth 20000 in
theorem wd_1017 : Cond.fieldLink "OnlyFarModel" 50 "OnlyFarModel" "cells" "[I" ∈ Com := com_4 228 (by decide +kernel) (by decide +kernel)
set_option maxRecDepth 20000 in
theorem wd_1018 : Cond.fieldLink "OnlyFarModel" 305 "OnlyFarModel" "torn" "I" ∈ Com := com_4 229 (by decide +kernel) (by decide +kernel)
set_option maxRecDepth 20000 in
theorem wd_1019 : Cond.fieldLink "OnlyFarModel" 53 "OnlyFarModel" "had" "[I" ∈ Com := com_4 230 (by decide +kernel) (by decide +kernel)
set_option maxRecDepth 20000 in
theorem wd_1020 : Cond.laysFinal "OnlyFarModel" "OnlyFarModel" "state" "[I" ∈ Com := com_4 231 (by decide +kernel) (by decide +kernel)
set_option maxRecDepth 20000 in
theorem wd_1022 : Cond.laysFinal "OnlyFarModel" "OnlyFarModel" "readPage" "[I" ∈ Com := com_4 233 (by decide +kernel) (by decide +kernel)
set_option maxRecDepth 20000 in
theorem wd_1024 : Cond.lays "OnlyFarModel" "OnlyFarModel" "isAwake" "Z" ∈ Com := com_4 235 (by decide +kernel) (by decide +kernel)
set_option maxRecDepth 20000 in
theorem wd_1026 : Cond.laysFinal "OnlyFarModel" "OnlyFarModel" "tape" "[I" ∈ Com := com_4 237 (by decide +kernel) (by decide +kernel)
set_option maxRecDepth 20000 in
theorem wd_1028 : Cond.lays "OnlyFarModel" "OnlyFarModel" "taped" "I" ∈ Com := com_4 239 (by decide +kernel) (by decide +kernel)
set_option maxRecDepth 20000 in
theorem wd_1030 : Cond.lays "OnlyFarModel" "OnlyFarModel" "fault" "I" ∈ Com := com_5 1 (by decide +kernel) (by decide +kernel)
set_option maxRecDepth 20000 in
theorem wd_1032 : Cond.lays "OnlyFarModel" "OnlyFarModel" "broken" "I" ∈ Com := com_5 3 (by decide +kernel) (by decide +kernel)
set_option maxRecDepth 20000 in
theorem wd_1034 : Cond.lays "OnlyFarModel" "OnlyFarModel" "brokenAt" "I" ∈ Com := com_5 5 (by decide +kernel) (by decide +kernel)
set_option maxRecDepth 20000 in
theorem wd_1036 : Cond.lays "OnlyFarModel" "OnlyFarModel" "spot" "I" ∈ Com := com_5 7 (by decide +kernel) (by decide +kernel)
set_option maxRecDepth 20000 in
theorem wd_1038 : Cond.lays "OnlyFarModel" "OnlyFarModel" "here" "I" ∈ Com := com_5 9 (by decide +kernel) (by decide +kernel)
set_option maxRecDepth 20000 in
theorem wd_1040 : Cond.lays "OnlyFarModel" "OnlyFarModel" "token" "I" ∈ Com := com_5 11 (by decide +kernel) (by decide +kernel)
set_option maxRecDepth 20000 in
theorem wd_1042 : Cond.lays "OnlyFarModel" "OnlyFarModel" "value" "I" ∈ Com := com_5 13 (by decide +kernel) (by decide +kernel)
set_option maxRecDepth 20000 in
theorem wd_1044 : Cond.laysFinal "OnlyFarModel" "OnlyFarModel" "letters" "[I" ∈ Com := com_5 15 (by decide +kernel) (by decide +kernel)
set_option maxRecDepth 20000 in
theorem wd_1046 : Cond.lays "OnlyFarModel" "OnlyFarModel" "hasPlaces" "Z" ∈ Com := com_5 17 (by decide +kernel) (by decide +kernel)
set_option maxRecDepth 20000 in
theorem wd_1048 : Cond.lays "OnlyFarModel" "OnlyFarModel" "highest" "I" ∈ Com := com_5 19 (by decide +kernel) (by decide +kernel)
set_option maxRecDepth 20000 in
theorem wd_1050 : Cond.laysFinal "OnlyFarModel" "OnlyFarModel" "sums" "[I" ∈ Com := com_5 21 (by decide +kernel) (by decide +kernel)
set_option maxRecDepth 20000 in
theorem wd_1052 : Cond.laysFinal "OnlyFarModel" "OnlyFarModel" "aside" "[I" ∈ Com := com_5 23 (by decide +kernel) (by decide +kernel)
set_option maxRecDepth 20000 in
theorem wd_1054 : Cond.laysFinal "OnlyFarModel" "OnlyFarModel" "groups" "[I" ∈ Com := com_5 25 (by decide +kernel) (by decide +kernel)
set_option maxRecDepth 20000 in
theorem wd_1056 : Cond.laysFinal "OnlyFarModel" "OnlyFarModel" "sides" "[I" ∈ Com := com_5 27 (by decide +kernel) (by decide +kernel)
set_option maxRecDepth 20000 in
theorem wd_1058 : Cond.lays "OnlyFarModel" "OnlyFarModel" "laid" "I" ∈ Com := com_5 29 (by decide +kernel) (by decide +kernel)
set_option maxRecDepth 20000 in
theorem wd_1060 : Cond.lays "OnlyFarModel" "OnlyFarModel" "groupMany" "I" ∈ Com := com_5 31 (by decide +kernel) (by decide +kernel)
set_option maxRecDepth 20000 in
theorem wd_1062 : Cond.lays "OnlyFarModel" "OnlyFarModel" "isDrawn" "Z" ∈ Com := com_5 33 (by decide +kernel) (by decide +kernel)
set_option maxRecDepth 20000 in
theorem wd_1064 : Cond.laysFinal "OnlyFarModel" "OnlyFarModel" "names" "[I" ∈ Com := com_5 35 (by decide +kernel) (by decide +kernel)
set_option maxRecDepth 20000 in
theorem wd_1066 : Cond.laysFinal "OnlyFarModel" "OnlyFarModel" "firstNames" "[I" ∈ Com := com_5 37 (by decide +kernel) (by decide +kernel)
set_option maxRecDepth 20000 in
theorem wd_1068 : Cond.laysFinal "OnlyFarModel" "OnlyFarModel" "isKept" "[Z" ∈ Com := com_5 39 (by decide +kernel) (by decide +kernel)
set_option maxRecDepth 20000 in
theorem wd_1070 : Cond.laysFinal "OnlyFarModel" "OnlyFarModel" "lanes" "[I" ∈ Com := com_5 41 (by decide +kernel) (by decide +kernel)
set_option maxRecDepth 20000 in
theorem wd_1072 : Cond.laysFinal "OnlyFarModel" "OnlyFarModel" "lengths" "[I" ∈ Com := com_5 43 (by decide +kernel) (by decide +kernel)
set_option maxRecDepth 20000 in
theorem wd_1074 : Cond.laysFinal "OnlyFarModel" "OnlyFarModel" "cells" "[I" ∈ Com := com_5 45 (by decide +kernel) (by decide +kernel)
set_option maxRecDepth 20000 in
theorem wd_1076 : Cond.lays "OnlyFarModel" "OnlyFarModel" "torn" "I" ∈ Com := com_5 47 (by decide +kernel) (by decide +kernel)
set_option maxRecDepth 20000 in
theorem wd_1078 : Cond.laysFinal "OnlyFarModel" "OnlyFarModel" "had" "[I" ∈ Com := com_5 49 (by decide +kernel) (by decide +kernel)
set_option maxRecDepth 20000 in
theorem wd_1080 : Cond.superclass "OnlyFarModel" "java/lang/Object" ∈ Com := com_5 51 (by decide +kernel) (by decide +kernel)
set_option maxRecDepth 20000 in
theorem wd_1081 : Cond.arrayClass .boolean ∈ Com := com_5 52 (by decide +kernel) (by decide +kernel)
set_option maxRecDepth 20000 in
theorem wd_1082 : Cond.methodLink "OnlyFarLaw" 19 yX11_feed ∈ Com := com_5 53 (by decide +kernel) (by decide +kernel)
set_option maxRecDepth 20000 in
theorem wd_1083 : Cond.instanceMethod yX11_feed ∈ Com := com_5 54 (by decide +kernel) (by decide +kernel)
set_option maxRecDepth 20000 in
theorem wd_1084 : Cond.selects "OnlyFarModel" yX11_feed yX11_feed ∈ Com := com_5 55 (by decide +kernel) (by decide +kernel)
set_option maxRecDepth 20000 in
theorem wd_1085 : Cond.code yX11_feed prog_13_method_5_code 4 (some .int) ∈ Com := com_5 56 (by decide +kernel) (by decide +kernel)
set_option maxRecDepth 20000 in
theorem wd_1086 : Cond.methodLink "OnlyFarLaw" 24 yX11_end ∈ Com := com_5 57 (by decide +kernel) (by decide +kernel)
set_option maxRecDepth 20000 in
theorem wd_1087 : Cond.instanceMethod yX11_end ∈ Com := com_5 58 (by decide +kernel) (by decide +kernel)
set_option maxRecDepth 20000 in
theorem wd_1088 : Cond.selects "OnlyFarModel" yX11_end yX11_end ∈ Com := com_5 59 (by decide +kernel) (by decide +kernel)
set_option maxRecDepth 20000 in
theorem wd_1089 : Cond.code yX11_end prog_13_method_6_code 3 (some .int) ∈ Com := com_5 60 (by decide +kernel) (by decide +kernel)
set_option maxRecDepth 20000 in
theorem wd_1090 : Cond.methodLink "OnlyFarModel" 64 yX11_in ∈ Com := com_5 61 (by decide +kernel) (by decide +kernel)
set_option maxRecDepth 20000 in
theorem wd_1091 : Cond.static yX11_in ∈ Com := com_5 62 (by decide +kernel) (by decide +kernel)
set_option maxRecDepth 20000 in
theorem wd_1092 : Cond.code yX11_in prog_13_method_3_code 6 (some .boolean) ∈ Com := com_5 63 (by decide +kernel) (by decide +kernel)
set_option maxRecDepth 20000 in
theorem wd_1093 : Cond.methodLink "OnlyFarLaw" 29 yX11_land ∈ Com := com_5 64 (by decide +kernel) (by decide +kernel)
set_option maxRecDepth 20000 in
theorem wd_1094 : Cond.instanceMethod yX11_land ∈ Com := com_5 65 (by decide +kernel) (by decide +kernel)
set_option maxRecDepth 20000 in
theorem wd_1095 : Cond.selects "OnlyFarModel" yX11_land yX11_land ∈ Com := com_5 66 (by decide +kernel) (by decide +kernel)
set_option maxRecDepth 20000 in
theorem wd_1096 : Cond.code yX11_land prog_13_method_16_code 3 (some .int) ∈ Com := com_5 67 (by decide +kernel) (by decide +kernel)
set_option maxRecDepth 20000 in
theorem wd_1097 : Cond.methodLink "OnlyFarModel" 106 yX11_step ∈ Com := com_5 68 (by decide +kernel) (by decide +kernel)
set_option maxRecDepth 20000 in
theorem wd_1099 : Cond.instanceMethod yX11_step ∈ Com := com_5 70 (by decide +kernel) (by decide +kernel)
set_option maxRecDepth 20000 in
theorem wd_1100 : Cond.code yX11_step prog_13_method_10_code 2 none ∈ Com := com_5 71 (by decide +kernel) (by decide +kernel)
set_option maxRecDepth 20000 in
theorem wd_1101 : Cond.methodLink "OnlyFarModel" 83 yX11_byteAt ∈ Com := com_5 72 (by decide +kernel) (by decide +kernel)
set_option maxRecDepth 20000 in
theorem wd_1103 : Cond.instanceMethod yX11_byteAt ∈ Com := com_5 74 (by decide +kernel) (by decide +kernel)
set_option maxRecDepth 20000 in
theorem wd_1104 : Cond.code yX11_byteAt prog_13_method_7_code 2 (some .int) ∈ Com := com_5 75 (by decide +kernel) (by decide +kernel)
set_option maxRecDepth 20000 in
theorem wd_1105 : Cond.constantLong "OnlyFarModel" 90 97 ∈ Com := com_5 76 (by decide +kernel) (by decide +kernel)
set_option maxRecDepth 20000 in
theorem wd_1106 : Cond.constantLong "OnlyFarModel" 92 122 ∈ Com := com_5 77 (by decide +kernel) (by decide +kernel)
set_option maxRecDepth 20000 in
theorem wd_1107 : Cond.constantLong "OnlyFarModel" 94 48 ∈ Com := com_5 78 (by decide +kernel) (by decide +kernel)
set_option maxRecDepth 20000 in
theorem wd_1108 : Cond.constantLong "OnlyFarModel" 96 57 ∈ Com := com_5 79 (by decide +kernel) (by decide +kernel)
set_option maxRecDepth 20000 in
theorem wd_1109 : Cond.methodLink "OnlyFarModel" 98 yX11_fails ∈ Com := com_5 80 (by decide +kernel) (by decide +kernel)
set_option maxRecDepth 20000 in
theorem wd_1111 : Cond.instanceMethod yX11_fails ∈ Com := com_5 82 (by decide +kernel) (by decide +kernel)
set_option maxRecDepth 20000 in
theorem wd_1112 : Cond.code yX11_fails prog_13_method_8_code 2 none ∈ Com := com_5 83 (by decide +kernel) (by decide +kernel)
set_option maxRecDepth 20000 in
theorem wd_1113 : Cond.methodLink "OnlyFarModel" 129 yX11_readLine ∈ Com := com_5 84 (by decide +kernel) (by decide +kernel)
set_option maxRecDepth 20000 in
theorem wd_1115 : Cond.instanceMethod yX11_readLine ∈ Com := com_5 86 (by decide +kernel) (by decide +kernel)
set_option maxRecDepth 20000 in
theorem wd_1116 : Cond.code yX11_readLine prog_13_method_15_code 1 none ∈ Com := com_5 87 (by decide +kernel) (by decide +kernel)
set_option maxRecDepth 20000 in
theorem wd_1117 : Cond.methodLink "OnlyFarModel" 119 yX11_isName ∈ Com := com_5 88 (by decide +kernel) (by decide +kernel)
set_option maxRecDepth 20000 in
theorem wd_1119 : Cond.instanceMethod yX11_isName ∈ Com := com_5 90 (by decide +kernel) (by decide +kernel)
set_option maxRecDepth 20000 in
theorem wd_1120 : Cond.code yX11_isName prog_13_method_9_code 5 (some .boolean) ∈ Com := com_5 91 (by decide +kernel) (by decide +kernel)
set_option maxRecDepth 20000 in
theorem wd_1121 : Cond.methodLink "OnlyFarModel" 109 yX11_number ∈ Com := com_5 92 (by decide +kernel) (by decide +kernel)
set_option maxRecDepth 20000 in
theorem wd_1123 : Cond.instanceMethod yX11_number ∈ Com := com_5 94 (by decide +kernel) (by decide +kernel)
set_option maxRecDepth 20000 in
theorem wd_1124 : Cond.code yX11_number prog_13_method_12_code 4 (some .int) ∈ Com := com_5 95 (by decide +kernel) (by decide +kernel)
set_option maxRecDepth 20000 in
theorem wd_1125 : Cond.methodLink "OnlyFarModel" 102 yX11_looks ∈ Com := com_5 96 (by decide +kernel) (by decide +kernel)
set_option maxRecDepth 20000 in
theorem wd_1127 : Cond.instanceMethod yX11_looks ∈ Com := com_5 98 (by decide +kernel) (by decide +kernel)
set_option maxRecDepth 20000 in
theorem wd_1128 : Cond.code yX11_looks prog_13_method_11_code 3 none ∈ Com := com_5 99 (by decide +kernel) (by decide +kernel)
set_option maxRecDepth 20000 in
theorem wd_1129 : Cond.methodLink "OnlyFarModel" 126 yX11_readFar ∈ Com := com_5 100 (by decide +kernel) (by decide +kernel)
set_option maxRecDepth 20000 in
theorem wd_1131 : Cond.instanceMethod yX11_readFar ∈ Com := com_5 102 (by decide +kernel) (by decide +kernel)
set_option maxRecDepth 20000 in
theorem wd_1132 : Cond.code yX11_readFar prog_13_method_14_code 4 none ∈ Com := com_5 103 (by decide +kernel) (by decide +kernel)
set_option maxRecDepth 20000 in
theorem wd_1133 : Cond.methodLink "OnlyFarModel" 113 yX11_pairOf ∈ Com := com_5 104 (by decide +kernel) (by decide +kernel)
set_option maxRecDepth 20000 in
theorem wd_1134 : Cond.static yX11_pairOf ∈ Com := com_5 105 (by decide +kernel) (by decide +kernel)
set_option maxRecDepth 20000 in
theorem wd_1135 : Cond.code yX11_pairOf prog_13_method_13_code 4 (some .int) ∈ Com := com_5 106 (by decide +kernel) (by decide +kernel)
set_option maxRecDepth 20000 in
theorem wd_1136 : Cond.methodLink "OnlyFarLaw" 33 yX11_fault ∈ Com := com_5 107 (by decide +kernel) (by decide +kernel)
set_option maxRecDepth 20000 in
theorem wd_1137 : Cond.instanceMethod yX11_fault ∈ Com := com_5 108 (by decide +kernel) (by decide +kernel)
set_option maxRecDepth 20000 in
theorem wd_1138 : Cond.selects "OnlyFarModel" yX11_fault yX11_fault ∈ Com := com_5 109 (by decide +kernel) (by decide +kernel)
set_option maxRecDepth 20000 in
theorem wd_1139 : Cond.code yX11_fault prog_13_method_17_code 1 (some .int) ∈ Com := com_5 110 (by decide +kernel) (by decide +kernel)
set_option maxRecDepth 20000 in
theorem wd_1140 : Cond.methodLink "OnlyFarLaw" 38 yX11_far ∈ Com := com_5 111 (by decide +kernel) (by decide +kernel)
set_option maxRecDepth 20000 in
theorem wd_1141 : Cond.instanceMethod yX11_far ∈ Com := com_5 112 (by decide +kernel) (by decide +kernel)
set_option maxRecDepth 20000 in
theorem wd_1142 : Cond.selects "OnlyFarModel" yX11_far yX11_far ∈ Com := com_5 113 (by decide +kernel) (by decide +kernel)
set_option maxRecDepth 20000 in
theorem wd_1143 : Cond.code yX11_far prog_13_method_25_code 3 (some .int) ∈ Com := com_5 114 (by decide +kernel) (by decide +kernel)
set_option maxRecDepth 20000 in
theorem wd_1144 : Cond.methodLink "OnlyFarModel" 142 yX11_areTwo ∈ Com := com_5 115 (by decide +kernel) (by decide +kernel)
set_option maxRecDepth 20000 in
theorem wd_1146 : Cond.instanceMethod yX11_areTwo ∈ Com := com_5 117 (by decide +kernel) (by decide +kernel)
set_option maxRecDepth 20000 in
theorem wd_1147 : Cond.code yX11_areTwo prog_13_method_19_code 3 (some .boolean) ∈ Com := com_5 118 (by decide +kernel) (by decide +kernel)
set_option maxRecDepth 20000 in
theorem wd_1148 : Cond.methodLink "OnlyFarModel" 138 yX11_isPlace ∈ Com := com_5 119 (by decide +kernel) (by decide +kernel)
set_option maxRecDepth 20000 in
theorem wd_1150 : Cond.instanceMethod yX11_isPlace ∈ Com := com_5 121 (by decide +kernel) (by decide +kernel)
set_option maxRecDepth 20000 in
theorem wd_1151 : Cond.code yX11_isPlace prog_13_method_18_code 2 (some .boolean) ∈ Com := com_5 122 (by decide +kernel) (by decide +kernel)
set_option maxRecDepth 20000 in
theorem wd_1152 : Cond.methodLink "OnlyFarModel" 135 yX11_awake ∈ Com := com_5 123 (by decide +kernel) (by decide +kernel)
set_option maxRecDepth 20000 in
theorem wd_1154 : Cond.instanceMethod yX11_awake ∈ Com := com_5 125 (by decide +kernel) (by decide +kernel)
set_option maxRecDepth 20000 in
theorem wd_1155 : Cond.code yX11_awake prog_13_method_4_code 1 none ∈ Com := com_5 126 (by decide +kernel) (by decide +kernel)
set_option maxRecDepth 20000 in
theorem wd_1156 : Cond.methodLink "OnlyFarModel" 149 yX11_sq ∈ Com := com_5 127 (by decide +kernel) (by decide +kernel)
set_option maxRecDepth 20000 in
theorem wd_1158 : Cond.instanceMethod yX11_sq ∈ Com := com_5 129 (by decide +kernel) (by decide +kernel)
set_option maxRecDepth 20000 in
theorem wd_1159 : Cond.code yX11_sq prog_13_method_22_code 3 (some .long) ∈ Com := com_5 130 (by decide +kernel) (by decide +kernel)
set_option maxRecDepth 20000 in
theorem wd_1160 : Cond.methodLink "OnlyFarLaw" 43 yX11_tell ∈ Com := com_5 131 (by decide +kernel) (by decide +kernel)
set_option maxRecDepth 20000 in
theorem wd_1161 : Cond.instanceMethod yX11_tell ∈ Com := com_5 132 (by decide +kernel) (by decide +kernel)
set_option maxRecDepth 20000 in
theorem wd_1162 : Cond.selects "OnlyFarModel" yX11_tell yX11_tell ∈ Com := com_5 133 (by decide +kernel) (by decide +kernel)
set_option maxRecDepth 20000 in
theorem wd_1163 : Cond.code yX11_tell prog_13_method_27_code 4 (some .int) ∈ Com := com_5 134 (by decide +kernel) (by decide +kernel)
set_option maxRecDepth 20000 in
theorem wd_1164 : Cond.methodLink "OnlyFarModel" 158 yX11_tells2 ∈ Com := com_5 135 (by decide +kernel) (by decide +kernel)
set_option maxRecDepth 20000 in
theorem wd_1166 : Cond.instanceMethod yX11_tells2 ∈ Com := com_5 137 (by decide +kernel) (by decide +kernel)
set_option maxRecDepth 20000 in
theorem wd_1167 : Cond.code yX11_tells2 prog_13_method_26_code 5 (some .int) ∈ Com := com_5 138 (by decide +kernel) (by decide +kernel)
set_option maxRecDepth 20000 in
theorem wd_1168 : Cond.constantLong "OnlyFarModel" 156 9999 ∈ Com := com_5 139 (by decide +kernel) (by decide +kernel)
set_option maxRecDepth 20000 in
theorem wd_1169 : Cond.methodLink "OnlyFarLaw" 47 yX11_pair ∈ Com := com_5 140 (by decide +kernel) (by decide +kernel)
set_option maxRecDepth 20000 in
theorem wd_1170 : Cond.instanceMethod yX11_pair ∈ Com := com_5 141 (by decide +kernel) (by decide +kernel)
set_option maxRecDepth 20000 in
theorem wd_1171 : Cond.selects "OnlyFarModel" yX11_pair yX11_pair ∈ Com := com_5 142 (by decide +kernel) (by decide +kernel)
set_option maxRecDepth 20000 in
theorem wd_1172 : Cond.code yX11_pair prog_13_method_28_code 3 (some .int) ∈ Com := com_5 143 (by decide +kernel) (by decide +kernel)
set_option maxRecDepth 20000 in
theorem wd_1173 : Cond.methodLink "OnlyFarLaw" 52 yX11_wide ∈ Com := com_5 144 (by decide +kernel) (by decide +kernel)
set_option maxRecDepth 20000 in
theorem wd_1174 : Cond.instanceMethod yX11_wide ∈ Com := com_5 145 (by decide +kernel) (by decide +kernel)
set_option maxRecDepth 20000 in
theorem wd_1175 : Cond.selects "OnlyFarModel" yX11_wide yX11_wide ∈ Com := com_5 146 (by decide +kernel) (by decide +kernel)
set_option maxRecDepth 20000 in
theorem wd_1176 : Cond.code yX11_wide prog_13_method_32_code 4 (some .long) ∈ Com := com_5 147 (by decide +kernel) (by decide +kernel)
set_option maxRecDepth 20000 in
theorem wd_1177 : Cond.methodLink "OnlyFarModel" 145 yX11_areThree ∈ Com := com_5 148 (by decide +kernel) (by decide +kernel)
set_option maxRecDepth 20000 in
theorem wd_1179 : Cond.instanceMethod yX11_areThree ∈ Com := com_5 150 (by decide +kernel) (by decide +kernel)
set_option maxRecDepth 20000 in
theorem wd_1180 : Cond.code yX11_areThree prog_13_method_20_code 4 (some .boolean) ∈ Com := com_5 151 (by decide +kernel) (by decide +kernel)
set_option maxRecDepth 20000 in
theorem wd_1181 : Cond.constantLong "OnlyFarModel" 172 (-9000000000) ∈ Com := com_5 152 (by decide +kernel) (by decide +kernel)
set_option maxRecDepth 20000 in
theorem wd_1182 : Cond.methodLink "OnlyFarModel" 153 yX11_areTold ∈ Com := com_5 153 (by decide +kernel) (by decide +kernel)
set_option maxRecDepth 20000 in
theorem wd_1184 : Cond.instanceMethod yX11_areTold ∈ Com := com_5 155 (by decide +kernel) (by decide +kernel)
set_option maxRecDepth 20000 in
theorem wd_1185 : Cond.code yX11_areTold prog_13_method_23_code 4 (some .boolean) ∈ Com := com_5 156 (by decide +kernel) (by decide +kernel)
set_option maxRecDepth 20000 in
theorem wd_1186 : Cond.methodLink "OnlyFarModel" 168 yX11_wideOf ∈ Com := com_5 157 (by decide +kernel) (by decide +kernel)
set_option maxRecDepth 20000 in
theorem wd_1188 : Cond.instanceMethod yX11_wideOf ∈ Com := com_5 159 (by decide +kernel) (by decide +kernel)
set_option maxRecDepth 20000 in
theorem wd_1189 : Cond.code yX11_wideOf prog_13_method_30_code 4 (some .long) ∈ Com := com_5 160 (by decide +kernel) (by decide +kernel)
set_option maxRecDepth 20000 in
theorem wd_1190 : Cond.methodLink "OnlyFarModel" 164 yX11_wideBy ∈ Com := com_5 161 (by decide +kernel) (by decide +kernel)
set_option maxRecDepth 20000 in
theorem wd_1191 : Cond.static yX11_wideBy ∈ Com := com_5 162 (by decide +kernel) (by decide +kernel)
set_option maxRecDepth 20000 in
theorem wd_1192 : Cond.code yX11_wideBy prog_13_method_29_code 8 (some .long) ∈ Com := com_5 163 (by decide +kernel) (by decide +kernel)
set_option maxRecDepth 20000 in
theorem wd_1193 : Cond.constantLong "OnlyFarModel" 162 4 ∈ Com := com_5 164 (by decide +kernel) (by decide +kernel)
set_option maxRecDepth 20000 in
theorem wd_1194 : Cond.constantLong "OnlyFarModel" 174 (-9000000001) ∈ Com := com_5 165 (by decide +kernel) (by decide +kernel)
set_option maxRecDepth 20000 in
theorem wd_1195 : Cond.methodLink "OnlyFarLaw" 56 yX11_three ∈ Com := com_5 166 (by decide +kernel) (by decide +kernel)
set_option maxRecDepth 20000 in
theorem wd_1196 : Cond.instanceMethod yX11_three ∈ Com := com_5 167 (by decide +kernel) (by decide +kernel)
set_option maxRecDepth 20000 in
theorem wd_1197 : Cond.selects "OnlyFarModel" yX11_three yX11_three ∈ Com := com_5 168 (by decide +kernel) (by decide +kernel)
set_option maxRecDepth 20000 in
theorem wd_1198 : Cond.code yX11_three prog_13_method_33_code 4 (some .int) ∈ Com := com_5 169 (by decide +kernel) (by decide +kernel)
set_option maxRecDepth 20000 in
theorem wd_1199 : Cond.methodLink "OnlyFarModel" 176 yX11_canBe ∈ Com := com_5 170 (by decide +kernel) (by decide +kernel)
set_option maxRecDepth 20000 in
theorem wd_1201 : Cond.instanceMethod yX11_canBe ∈ Com := com_5 172 (by decide +kernel) (by decide +kernel)
set_option maxRecDepth 20000 in
theorem wd_1202 : Cond.code yX11_canBe prog_13_method_31_code 4 (some .boolean) ∈ Com := com_5 173 (by decide +kernel) (by decide +kernel)
set_option maxRecDepth 20000 in
theorem wd_1203 : Cond.methodLink "OnlyFarLaw" 61 yX11_four ∈ Com := com_5 174 (by decide +kernel) (by decide +kernel)
set_option maxRecDepth 20000 in
theorem wd_1204 : Cond.instanceMethod yX11_four ∈ Com := com_5 175 (by decide +kernel) (by decide +kernel)
set_option maxRecDepth 20000 in
theorem wd_1205 : Cond.selects "OnlyFarModel" yX11_four yX11_four ∈ Com := com_5 176 (by decide +kernel) (by decide +kernel)
set_option maxRecDepth 20000 in
theorem wd_1206 : Cond.code yX11_four prog_13_method_36_code 5 (some .int) ∈ Com := com_5 177 (by decide +kernel) (by decide +kernel)
set_option maxRecDepth 20000 in
theorem wd_1207 : Cond.methodLink "OnlyFarModel" 184 yX11_areFour ∈ Com := com_5 178 (by decide +kernel) (by decide +kernel)
set_option maxRecDepth 20000 in
theorem wd_1209 : Cond.instanceMethod yX11_areFour ∈ Com := com_5 180 (by decide +kernel) (by decide +kernel)
set_option maxRecDepth 20000 in
theorem wd_1210 : Cond.code yX11_areFour prog_13_method_21_code 5 (some .boolean) ∈ Com := com_5 181 (by decide +kernel) (by decide +kernel)
set_option maxRecDepth 20000 in
theorem wd_1211 : Cond.methodLink "OnlyFarModel" 188 yX11_allTold ∈ Com := com_5 182 (by decide +kernel) (by decide +kernel)
set_option maxRecDepth 20000 in
theorem wd_1213 : Cond.instanceMethod yX11_allTold ∈ Com := com_5 184 (by decide +kernel) (by decide +kernel)
set_option maxRecDepth 20000 in
theorem wd_1214 : Cond.code yX11_allTold prog_13_method_24_code 5 (some .boolean) ∈ Com := com_5 185 (by decide +kernel) (by decide +kernel)
set_option maxRecDepth 20000 in
theorem wd_1215 : Cond.methodLink "OnlyFarModel" 191 yX11_canFour ∈ Com := com_5 186 (by decide +kernel) (by decide +kernel)
set_option maxRecDepth 20000 in
theorem wd_1217 : Cond.instanceMethod yX11_canFour ∈ Com := com_5 188 (by decide +kernel) (by decide +kernel)
set_option maxRecDepth 20000 in
theorem wd_1218 : Cond.code yX11_canFour prog_13_method_35_code 17 (some .boolean) ∈ Com := com_5 189 (by decide +kernel) (by decide +kernel)
set_option maxRecDepth 20000 in
theorem wd_1219 : Cond.constantLong "OnlyFarModel" 179 2 ∈ Com := com_5 190 (by decide +kernel) (by decide +kernel)
set_option maxRecDepth 20000 in
theorem wd_1220 : Cond.methodLink "OnlyFarModel" 181 yX11_dot ∈ Com := com_5 191 (by decide +kernel) (by decide +kernel)
set_option maxRecDepth 20000 in
theorem wd_1222 : Cond.instanceMethod yX11_dot ∈ Com := com_5 193 (by decide +kernel) (by decide +kernel)
set_option maxRecDepth 20000 in
theorem wd_1223 : Cond.code yX11_dot prog_13_method_34_code 4 (some .long) ∈ Com := com_5 194 (by decide +kernel) (by decide +kernel)
set_option maxRecDepth 20000 in
theorem wd_1224 : Cond.methodLink "OnlyFarLaw" 65 yX11_wrong ∈ Com := com_5 195 (by decide +kernel) (by decide +kernel)
set_option maxRecDepth 20000 in
theorem wd_1225 : Cond.instanceMethod yX11_wrong ∈ Com := com_5 196 (by decide +kernel) (by decide +kernel)
set_option maxRecDepth 20000 in
theorem wd_1226 : Cond.selects "OnlyFarModel" yX11_wrong yX11_wrong ∈ Com := com_5 197 (by decide +kernel) (by decide +kernel)
set_option maxRecDepth 20000 in
theorem wd_1227 : Cond.code yX11_wrong prog_13_method_38_code 2 (some .int) ∈ Com := com_5 198 (by decide +kernel) (by decide +kernel)
set_option maxRecDepth 20000 in
theorem wd_1228 : Cond.constantLong "OnlyFarModel" 194 3 ∈ Com := com_5 199 (by decide +kernel) (by decide +kernel)
set_option maxRecDepth 20000 in
theorem wd_1229 : Cond.methodLink "OnlyFarModel" 196 yX11_layWrong ∈ Com := com_5 200 (by decide +kernel) (by decide +kernel)
set_option maxRecDepth 20000 in
theorem wd_1231 : Cond.instanceMethod yX11_layWrong ∈ Com := com_5 202 (by decide +kernel) (by decide +kernel)
set_option maxRecDepth 20000 in
theorem wd_1232 : Cond.code yX11_layWrong prog_13_method_37_code 6 none ∈ Com := com_5 203 (by decide +kernel) (by decide +kernel)
set_option maxRecDepth 20000 in
theorem wd_1233 : Cond.methodLink "OnlyFarLaw" 69 yX11_falses ∈ Com := com_5 204 (by decide +kernel) (by decide +kernel)
set_option maxRecDepth 20000 in
theorem wd_1234 : Cond.instanceMethod yX11_falses ∈ Com := com_5 205 (by decide +kernel) (by decide +kernel)
set_option maxRecDepth 20000 in
theorem wd_1235 : Cond.selects "OnlyFarModel" yX11_falses yX11_falses ∈ Com := com_5 206 (by decide +kernel) (by decide +kernel)
set_option maxRecDepth 20000 in
theorem wd_1236 : Cond.code yX11_falses prog_13_method_43_code 4 (some .int) ∈ Com := com_5 207 (by decide +kernel) (by decide +kernel)
set_option maxRecDepth 20000 in
theorem wd_1237 : Cond.methodLink "OnlyFarModel" 209 yX11_falseBits ∈ Com := com_5 208 (by decide +kernel) (by decide +kernel)
set_option maxRecDepth 20000 in
theorem wd_1239 : Cond.instanceMethod yX11_falseBits ∈ Com := com_5 210 (by decide +kernel) (by decide +kernel)
set_option maxRecDepth 20000 in
theorem wd_1240 : Cond.code yX11_falseBits prog_13_method_42_code 8 (some .int) ∈ Com := com_5 211 (by decide +kernel) (by decide +kernel)
set_option maxRecDepth 20000 in
theorem wd_1241 : Cond.methodLink "OnlyFarModel" 203 yX11_isSet ∈ Com := com_5 212 (by decide +kernel) (by decide +kernel)
set_option maxRecDepth 20000 in
theorem wd_1243 : Cond.instanceMethod yX11_isSet ∈ Com := com_5 214 (by decide +kernel) (by decide +kernel)
set_option maxRecDepth 20000 in
theorem wd_1244 : Cond.code yX11_isSet prog_13_method_41_code 2 (some .boolean) ∈ Com := com_5 215 (by decide +kernel) (by decide +kernel)
set_option maxRecDepth 20000 in
theorem wd_1245 : Cond.methodLink "OnlyFarModel" 206 yX11_isRightWithout ∈ Com := com_5 216 (by decide +kernel) (by decide +kernel)
set_option maxRecDepth 20000 in
theorem wd_1247 : Cond.instanceMethod yX11_isRightWithout ∈ Com := com_5 218 (by decide +kernel) (by decide +kernel)
set_option maxRecDepth 20000 in
theorem wd_1248 : Cond.code yX11_isRightWithout prog_13_method_40_code 6 (some .boolean) ∈ Com := com_5 219 (by decide +kernel) (by decide +kernel)
set_option maxRecDepth 20000 in
theorem wd_1249 : Cond.methodLink "OnlyFarModel" 199 yX11_areRight ∈ Com := com_5 220 (by decide +kernel) (by decide +kernel)
set_option maxRecDepth 20000 in
theorem wd_1251 : Cond.instanceMethod yX11_areRight ∈ Com := com_5 222 (by decide +kernel) (by decide +kernel)
set_option maxRecDepth 20000 in
theorem wd_1252 : Cond.code yX11_areRight prog_13_method_39_code 1 (some .boolean) ∈ Com := com_5 223 (by decide +kernel) (by decide +kernel)
set_option maxRecDepth 20000 in
theorem wd_1253 : Cond.methodLink "OnlyFarLaw" 73 yX11_doubt ∈ Com := com_5 224 (by decide +kernel) (by decide +kernel)
set_option maxRecDepth 20000 in
theorem wd_1254 : Cond.instanceMethod yX11_doubt ∈ Com := com_5 225 (by decide +kernel) (by decide +kernel)
set_option maxRecDepth 20000 in
theorem wd_1255 : Cond.selects "OnlyFarModel" yX11_doubt yX11_doubt ∈ Com := com_5 226 (by decide +kernel) (by decide +kernel)
set_option maxRecDepth 20000 in
theorem wd_1256 : Cond.code yX11_doubt prog_13_method_44_code 7 (some .int) ∈ Com := com_5 227 (by decide +kernel) (by decide +kernel)
set_option maxRecDepth 20000 in
theorem wd_1257 : Cond.methodLink "OnlyFarLaw" 77 yX11_bend ∈ Com := com_5 228 (by decide +kernel) (by decide +kernel)
set_option maxRecDepth 20000 in
theorem wd_1258 : Cond.instanceMethod yX11_bend ∈ Com := com_5 229 (by decide +kernel) (by decide +kernel)
set_option maxRecDepth 20000 in
theorem wd_1259 : Cond.selects "OnlyFarModel" yX11_bend yX11_bend ∈ Com := com_5 230 (by decide +kernel) (by decide +kernel)
set_option maxRecDepth 20000 in
theorem wd_1260 : Cond.code yX11_bend prog_13_method_46_code 4 (some .int) ∈ Com := com_5 231 (by decide +kernel) (by decide +kernel)
set_option maxRecDepth 20000 in
theorem wd_1261 : Cond.methodLink "OnlyFarModel" 212 yX11_signOf ∈ Com := com_5 232 (by decide +kernel) (by decide +kernel)
set_option maxRecDepth 20000 in
theorem wd_1262 : Cond.static yX11_signOf ∈ Com := com_5 233 (by decide +kernel) (by decide +kernel)
set_option maxRecDepth 20000 in
theorem wd_1263 : Cond.code yX11_signOf prog_13_method_45_code 2 (some .int) ∈ Com := com_5 234 (by decide +kernel) (by decide +kernel)
set_option maxRecDepth 20000 in
theorem wd_1264 : Cond.methodLink "OnlyFarLaw" 82 yX11_foot ∈ Com := com_5 235 (by decide +kernel) (by decide +kernel)
set_option maxRecDepth 20000 in
theorem wd_1265 : Cond.instanceMethod yX11_foot ∈ Com := com_5 236 (by decide +kernel) (by decide +kernel)
set_option maxRecDepth 20000 in
theorem wd_1266 : Cond.selects "OnlyFarModel" yX11_foot yX11_foot ∈ Com := com_5 237 (by decide +kernel) (by decide +kernel)
set_option maxRecDepth 20000 in
theorem wd_1267 : Cond.code yX11_foot prog_13_method_49_code 7 (some .long) ∈ Com := com_5 238 (by decide +kernel) (by decide +kernel)
set_option maxRecDepth 20000 in
theorem wd_1268 : Cond.methodLink "OnlyFarModel" 216 yX11_hinders ∈ Com := com_5 239 (by decide +kernel) (by decide +kernel)
set_option maxRecDepth 20000 in
theorem wd_1270 : Cond.instanceMethod yX11_hinders ∈ Com := com_6 1 (by decide +kernel) (by decide +kernel)
set_option maxRecDepth 20000 in
theorem wd_1271 : Cond.code yX11_hinders prog_13_method_48_code 5 (some .long) ∈ Com := com_6 2 (by decide +kernel) (by decide +kernel)
set_option maxRecDepth 20000 in
theorem wd_1272 : Cond.methodLink "OnlyFarModel" 220 yX11_lowest ∈ Com := com_6 3 (by decide +kernel) (by decide +kernel)
set_option maxRecDepth 20000 in
theorem wd_1273 : Cond.static yX11_lowest ∈ Com := com_6 4 (by decide +kernel) (by decide +kernel)
set_option maxRecDepth 20000 in
theorem wd_1274 : Cond.code yX11_lowest prog_13_method_47_code 11 (some .long) ∈ Com := com_6 5 (by decide +kernel) (by decide +kernel)
set_option maxRecDepth 20000 in
theorem wd_1275 : Cond.methodLink "OnlyFarLaw" 86 yX11_height ∈ Com := com_6 6 (by decide +kernel) (by decide +kernel)
set_option maxRecDepth 20000 in
theorem wd_1276 : Cond.instanceMethod yX11_height ∈ Com := com_6 7 (by decide +kernel) (by decide +kernel)
set_option maxRecDepth 20000 in
theorem wd_1277 : Cond.selects "OnlyFarModel" yX11_height yX11_height ∈ Com := com_6 8 (by decide +kernel) (by decide +kernel)
set_option maxRecDepth 20000 in
theorem wd_1278 : Cond.code yX11_height prog_13_method_50_code 7 (some .long) ∈ Com := com_6 9 (by decide +kernel) (by decide +kernel)
set_option maxRecDepth 20000 in
theorem wd_1279 : Cond.methodLink "OnlyFarLaw" 90 yX11_round ∈ Com := com_6 10 (by decide +kernel) (by decide +kernel)
set_option maxRecDepth 20000 in
theorem wd_1280 : Cond.instanceMethod yX11_round ∈ Com := com_6 11 (by decide +kernel) (by decide +kernel)
set_option maxRecDepth 20000 in
theorem wd_1281 : Cond.selects "OnlyFarModel" yX11_round yX11_round ∈ Com := com_6 12 (by decide +kernel) (by decide +kernel)
set_option maxRecDepth 20000 in
theorem wd_1282 : Cond.code yX11_round prog_13_method_51_code 7 (some .long) ∈ Com := com_6 13 (by decide +kernel) (by decide +kernel)
set_option maxRecDepth 20000 in
theorem wd_1283 : Cond.methodLink "OnlyFarLaw" 94 yX11_side ∈ Com := com_6 14 (by decide +kernel) (by decide +kernel)
set_option maxRecDepth 20000 in
theorem wd_1284 : Cond.instanceMethod yX11_side ∈ Com := com_6 15 (by decide +kernel) (by decide +kernel)
set_option maxRecDepth 20000 in
theorem wd_1285 : Cond.selects "OnlyFarModel" yX11_side yX11_side ∈ Com := com_6 16 (by decide +kernel) (by decide +kernel)
set_option maxRecDepth 20000 in
theorem wd_1286 : Cond.code yX11_side prog_13_method_54_code 6 (some .int) ∈ Com := com_6 17 (by decide +kernel) (by decide +kernel)
set_option maxRecDepth 20000 in
theorem wd_1287 : Cond.methodLink "OnlyFarModel" 224 yX11_isWhole ∈ Com := com_6 18 (by decide +kernel) (by decide +kernel)
set_option maxRecDepth 20000 in
theorem wd_1289 : Cond.instanceMethod yX11_isWhole ∈ Com := com_6 20 (by decide +kernel) (by decide +kernel)
set_option maxRecDepth 20000 in
theorem wd_1290 : Cond.code yX11_isWhole prog_13_method_53_code 6 (some .boolean) ∈ Com := com_6 21 (by decide +kernel) (by decide +kernel)
set_option maxRecDepth 20000 in
theorem wd_1291 : Cond.methodLink "OnlyFarModel" 227 yX11_sideOf ∈ Com := com_6 22 (by decide +kernel) (by decide +kernel)
set_option maxRecDepth 20000 in
theorem wd_1293 : Cond.instanceMethod yX11_sideOf ∈ Com := com_6 24 (by decide +kernel) (by decide +kernel)
set_option maxRecDepth 20000 in
theorem wd_1294 : Cond.code yX11_sideOf prog_13_method_52_code 5 (some .int) ∈ Com := com_6 25 (by decide +kernel) (by decide +kernel)
set_option maxRecDepth 20000 in
theorem wd_1295 : Cond.methodLink "OnlyFarLaw" 98 yX11_within ∈ Com := com_6 26 (by decide +kernel) (by decide +kernel)
set_option maxRecDepth 20000 in
theorem wd_1296 : Cond.instanceMethod yX11_within ∈ Com := com_6 27 (by decide +kernel) (by decide +kernel)
set_option maxRecDepth 20000 in
theorem wd_1297 : Cond.selects "OnlyFarModel" yX11_within yX11_within ∈ Com := com_6 28 (by decide +kernel) (by decide +kernel)
set_option maxRecDepth 20000 in
theorem wd_1298 : Cond.code yX11_within prog_13_method_55_code 5 (some .int) ∈ Com := com_6 29 (by decide +kernel) (by decide +kernel)
set_option maxRecDepth 20000 in
theorem wd_1299 : Cond.methodLink "OnlyFarLaw" 103 yX11_sixth ∈ Com := com_6 30 (by decide +kernel) (by decide +kernel)
set_option maxRecDepth 20000 in
theorem wd_1300 : Cond.instanceMethod yX11_sixth ∈ Com := com_6 31 (by decide +kernel) (by decide +kernel)
set_option maxRecDepth 20000 in
theorem wd_1301 : Cond.selects "OnlyFarModel" yX11_sixth yX11_sixth ∈ Com := com_6 32 (by decide +kernel) (by decide +kernel)
set_option maxRecDepth 20000 in
theorem wd_1302 : Cond.code yX11_sixth prog_13_method_59_code 16 (some .long) ∈ Com := com_6 33 (by decide +kernel) (by decide +kernel)
set_option maxRecDepth 20000 in
theorem wd_1303 : Cond.methodLink "OnlyFarModel" 233 yX11_across ∈ Com := com_6 34 (by decide +kernel) (by decide +kernel)
set_option maxRecDepth 20000 in
theorem wd_1305 : Cond.instanceMethod yX11_across ∈ Com := com_6 36 (by decide +kernel) (by decide +kernel)
set_option maxRecDepth 20000 in
theorem wd_1306 : Cond.code yX11_across prog_13_method_57_code 9 (some .long) ∈ Com := com_6 37 (by decide +kernel) (by decide +kernel)
set_option maxRecDepth 20000 in
theorem wd_1307 : Cond.methodLink "OnlyFarModel" 236 yX11_under ∈ Com := com_6 38 (by decide +kernel) (by decide +kernel)
set_option maxRecDepth 20000 in
theorem wd_1309 : Cond.instanceMethod yX11_under ∈ Com := com_6 40 (by decide +kernel) (by decide +kernel)
set_option maxRecDepth 20000 in
theorem wd_1310 : Cond.code yX11_under prog_13_method_58_code 5 (some .long) ∈ Com := com_6 41 (by decide +kernel) (by decide +kernel)
set_option maxRecDepth 20000 in
theorem wd_1311 : Cond.methodLink "OnlyFarModel" 239 yX11_root ∈ Com := com_6 42 (by decide +kernel) (by decide +kernel)
set_option maxRecDepth 20000 in
theorem wd_1312 : Cond.static yX11_root ∈ Com := com_6 43 (by decide +kernel) (by decide +kernel)
set_option maxRecDepth 20000 in
theorem wd_1313 : Cond.code yX11_root prog_13_method_56_code 9 (some .long) ∈ Com := com_6 44 (by decide +kernel) (by decide +kernel)
set_option maxRecDepth 20000 in
theorem wd_1314 : Cond.constantLong "OnlyFarModel" 231 1000000000 ∈ Com := com_6 45 (by decide +kernel) (by decide +kernel)
set_option maxRecDepth 20000 in
theorem wd_1315 : Cond.constantLong "OnlyFarModel" 243 (-4) ∈ Com := com_6 46 (by decide +kernel) (by decide +kernel)
set_option maxRecDepth 20000 in
theorem wd_1316 : Cond.methodLink "OnlyFarLaw" 107 yX11_ends ∈ Com := com_6 47 (by decide +kernel) (by decide +kernel)
set_option maxRecDepth 20000 in
theorem wd_1317 : Cond.instanceMethod yX11_ends ∈ Com := com_6 48 (by decide +kernel) (by decide +kernel)
set_option maxRecDepth 20000 in
theorem wd_1318 : Cond.selects "OnlyFarModel" yX11_ends yX11_ends ∈ Com := com_6 49 (by decide +kernel) (by decide +kernel)
set_option maxRecDepth 20000 in
theorem wd_1319 : Cond.code yX11_ends prog_13_method_60_code 15 (some .int) ∈ Com := com_6 50 (by decide +kernel) (by decide +kernel)
set_option maxRecDepth 20000 in
theorem wd_1320 : Cond.constantLong "OnlyFarModel" 245 99999 ∈ Com := com_6 51 (by decide +kernel) (by decide +kernel)
set_option maxRecDepth 20000 in
theorem wd_1321 : Cond.methodLink "OnlyFarLaw" 111 yX11_drawings ∈ Com := com_6 52 (by decide +kernel) (by decide +kernel)
set_option maxRecDepth 20000 in
theorem wd_1322 : Cond.instanceMethod yX11_drawings ∈ Com := com_6 53 (by decide +kernel) (by decide +kernel)
set_option maxRecDepth 20000 in
theorem wd_1323 : Cond.selects "OnlyFarModel" yX11_drawings yX11_drawings ∈ Com := com_6 54 (by decide +kernel) (by decide +kernel)
set_option maxRecDepth 20000 in
theorem wd_1324 : Cond.code yX11_drawings prog_13_method_66_code 4 (some .int) ∈ Com := com_6 55 (by decide +kernel) (by decide +kernel)
set_option maxRecDepth 20000 in
theorem wd_1325 : Cond.constantLong "OnlyFarModel" 265 10 ∈ Com := com_6 56 (by decide +kernel) (by decide +kernel)
set_option maxRecDepth 20000 in
theorem wd_1326 : Cond.methodLink "OnlyFarModel" 267 yX11_layDrawings ∈ Com := com_6 57 (by decide +kernel) (by decide +kernel)
set_option maxRecDepth 20000 in
theorem wd_1328 : Cond.instanceMethod yX11_layDrawings ∈ Com := com_6 59 (by decide +kernel) (by decide +kernel)
set_option maxRecDepth 20000 in
theorem wd_1329 : Cond.code yX11_layDrawings prog_13_method_64_code 8 none ∈ Com := com_6 60 (by decide +kernel) (by decide +kernel)
set_option maxRecDepth 20000 in
theorem wd_1330 : Cond.methodLink "OnlyFarModel" 259 yX11_layGroups ∈ Com := com_6 61 (by decide +kernel) (by decide +kernel)
set_option maxRecDepth 20000 in
theorem wd_1332 : Cond.instanceMethod yX11_layGroups ∈ Com := com_6 63 (by decide +kernel) (by decide +kernel)
set_option maxRecDepth 20000 in
theorem wd_1333 : Cond.code yX11_layGroups prog_13_method_63_code 8 none ∈ Com := com_6 64 (by decide +kernel) (by decide +kernel)
set_option maxRecDepth 20000 in
theorem wd_1334 : Cond.methodLink "OnlyFarModel" 250 yX11_relation ∈ Com := com_6 65 (by decide +kernel) (by decide +kernel)
set_option maxRecDepth 20000 in
theorem wd_1336 : Cond.instanceMethod yX11_relation ∈ Com := com_6 67 (by decide +kernel) (by decide +kernel)
set_option maxRecDepth 20000 in
theorem wd_1337 : Cond.code yX11_relation prog_13_method_62_code 7 (some .int) ∈ Com := com_6 68 (by decide +kernel) (by decide +kernel)
set_option maxRecDepth 20000 in
theorem wd_1338 : Cond.methodLink "OnlyFarModel" 262 yX11_isLaid ∈ Com := com_6 69 (by decide +kernel) (by decide +kernel)
set_option maxRecDepth 20000 in
theorem wd_1340 : Cond.instanceMethod yX11_isLaid ∈ Com := com_6 71 (by decide +kernel) (by decide +kernel)
set_option maxRecDepth 20000 in
theorem wd_1341 : Cond.code yX11_isLaid prog_13_method_61_code 2 (some .boolean) ∈ Com := com_6 72 (by decide +kernel) (by decide +kernel)
set_option maxRecDepth 20000 in
theorem wd_1342 : Cond.methodLink "OnlyFarModel" 270 yX11_drawingMany ∈ Com := com_6 73 (by decide +kernel) (by decide +kernel)
set_option maxRecDepth 20000 in
theorem wd_1344 : Cond.instanceMethod yX11_drawingMany ∈ Com := com_6 75 (by decide +kernel) (by decide +kernel)
set_option maxRecDepth 20000 in
theorem wd_1345 : Cond.code yX11_drawingMany prog_13_method_65_code 1 (some .int) ∈ Com := com_6 76 (by decide +kernel) (by decide +kernel)
set_option maxRecDepth 20000 in
theorem wd_1346 : Cond.methodLink "OnlyFarLaw" 115 yX11_spare ∈ Com := com_6 77 (by decide +kernel) (by decide +kernel)
set_option maxRecDepth 20000 in
theorem wd_1347 : Cond.instanceMethod yX11_spare ∈ Com := com_6 78 (by decide +kernel) (by decide +kernel)
set_option maxRecDepth 20000 in
theorem wd_1348 : Cond.selects "OnlyFarModel" yX11_spare yX11_spare ∈ Com := com_6 79 (by decide +kernel) (by decide +kernel)
set_option maxRecDepth 20000 in
theorem wd_1349 : Cond.code yX11_spare prog_13_method_67_code 7 (some .int) ∈ Com := com_6 80 (by decide +kernel) (by decide +kernel)
set_option maxRecDepth 20000 in
theorem wd_1350 : Cond.methodLink "OnlyFarLaw" 119 yX11_base ∈ Com := com_6 81 (by decide +kernel) (by decide +kernel)
set_option maxRecDepth 20000 in
theorem wd_1351 : Cond.instanceMethod yX11_base ∈ Com := com_6 82 (by decide +kernel) (by decide +kernel)
set_option maxRecDepth 20000 in
theorem wd_1352 : Cond.selects "OnlyFarModel" yX11_base yX11_base ∈ Com := com_6 83 (by decide +kernel) (by decide +kernel)
set_option maxRecDepth 20000 in
theorem wd_1353 : Cond.code yX11_base prog_13_method_69_code 8 (some .int) ∈ Com := com_6 84 (by decide +kernel) (by decide +kernel)
set_option maxRecDepth 20000 in
theorem wd_1354 : Cond.methodLink "OnlyFarModel" 274 yX11_bitsOf ∈ Com := com_6 85 (by decide +kernel) (by decide +kernel)
set_option maxRecDepth 20000 in
theorem wd_1355 : Cond.static yX11_bitsOf ∈ Com := com_6 86 (by decide +kernel) (by decide +kernel)
set_option maxRecDepth 20000 in
theorem wd_1356 : Cond.code yX11_bitsOf prog_13_method_68_code 3 (some .int) ∈ Com := com_6 87 (by decide +kernel) (by decide +kernel)
set_option maxRecDepth 20000 in
theorem wd_1357 : Cond.methodLink "OnlyFarLaw" 123 yX11_tells ∈ Com := com_6 88 (by decide +kernel) (by decide +kernel)
set_option maxRecDepth 20000 in
theorem wd_1358 : Cond.instanceMethod yX11_tells ∈ Com := com_6 89 (by decide +kernel) (by decide +kernel)
set_option maxRecDepth 20000 in
theorem wd_1359 : Cond.selects "OnlyFarModel" yX11_tells yX11_tells ∈ Com := com_6 90 (by decide +kernel) (by decide +kernel)
set_option maxRecDepth 20000 in
theorem wd_1360 : Cond.code yX11_tells prog_13_method_72_code 3 (some .int) ∈ Com := com_6 91 (by decide +kernel) (by decide +kernel)
set_option maxRecDepth 20000 in
theorem wd_1361 : Cond.methodLink "OnlyFarModel" 277 yX11_areSome ∈ Com := com_6 92 (by decide +kernel) (by decide +kernel)
set_option maxRecDepth 20000 in
theorem wd_1363 : Cond.instanceMethod yX11_areSome ∈ Com := com_6 94 (by decide +kernel) (by decide +kernel)
set_option maxRecDepth 20000 in
theorem wd_1364 : Cond.code yX11_areSome prog_13_method_71_code 3 (some .boolean) ∈ Com := com_6 95 (by decide +kernel) (by decide +kernel)
set_option maxRecDepth 20000 in
theorem wd_1365 : Cond.methodLink "OnlyFarModel" 280 yX11_isTold ∈ Com := com_6 96 (by decide +kernel) (by decide +kernel)
set_option maxRecDepth 20000 in
theorem wd_1367 : Cond.instanceMethod yX11_isTold ∈ Com := com_6 98 (by decide +kernel) (by decide +kernel)
set_option maxRecDepth 20000 in
theorem wd_1368 : Cond.code yX11_isTold prog_13_method_70_code 6 (some .boolean) ∈ Com := com_6 99 (by decide +kernel) (by decide +kernel)
set_option maxRecDepth 20000 in
theorem wd_1369 : Cond.methodLink "OnlyFarLaw" 127 yX11_words ∈ Com := com_6 100 (by decide +kernel) (by decide +kernel)
set_option maxRecDepth 20000 in
theorem wd_1370 : Cond.instanceMethod yX11_words ∈ Com := com_6 101 (by decide +kernel) (by decide +kernel)
set_option maxRecDepth 20000 in
theorem wd_1371 : Cond.selects "OnlyFarModel" yX11_words yX11_words ∈ Com := com_6 102 (by decide +kernel) (by decide +kernel)
set_option maxRecDepth 20000 in
theorem wd_1372 : Cond.code yX11_words prog_13_method_73_code 6 (some .int) ∈ Com := com_6 103 (by decide +kernel) (by decide +kernel)
set_option maxRecDepth 20000 in
theorem wd_1373 : Cond.methodLink "OnlyFarLaw" 131 yX11_at ∈ Com := com_6 104 (by decide +kernel) (by decide +kernel)
set_option maxRecDepth 20000 in
theorem wd_1374 : Cond.instanceMethod yX11_at ∈ Com := com_6 105 (by decide +kernel) (by decide +kernel)
set_option maxRecDepth 20000 in
theorem wd_1375 : Cond.selects "OnlyFarModel" yX11_at yX11_at ∈ Com := com_6 106 (by decide +kernel) (by decide +kernel)
set_option maxRecDepth 20000 in
theorem wd_1376 : Cond.code yX11_at prog_13_method_75_code 7 (some .int) ∈ Com := com_6 107 (by decide +kernel) (by decide +kernel)
set_option maxRecDepth 20000 in
theorem wd_1377 : Cond.methodLink "OnlyFarModel" 283 yX11_isAt ∈ Com := com_6 108 (by decide +kernel) (by decide +kernel)
set_option maxRecDepth 20000 in
theorem wd_1379 : Cond.instanceMethod yX11_isAt ∈ Com := com_6 110 (by decide +kernel) (by decide +kernel)
set_option maxRecDepth 20000 in
theorem wd_1380 : Cond.code yX11_isAt prog_13_method_74_code 5 (some .boolean) ∈ Com := com_6 111 (by decide +kernel) (by decide +kernel)
set_option maxRecDepth 20000 in
theorem wd_1381 : Cond.methodLink "OnlyFarLaw" 135 yX11_spots ∈ Com := com_6 112 (by decide +kernel) (by decide +kernel)
set_option maxRecDepth 20000 in
theorem wd_1382 : Cond.instanceMethod yX11_spots ∈ Com := com_6 113 (by decide +kernel) (by decide +kernel)
set_option maxRecDepth 20000 in
theorem wd_1383 : Cond.selects "OnlyFarModel" yX11_spots yX11_spots ∈ Com := com_6 114 (by decide +kernel) (by decide +kernel)
set_option maxRecDepth 20000 in
theorem wd_1384 : Cond.code yX11_spots prog_13_method_76_code 5 (some .int) ∈ Com := com_6 115 (by decide +kernel) (by decide +kernel)
set_option maxRecDepth 20000 in
theorem wd_1385 : Cond.methodLink "OnlyFarLaw" 139 yX11_maps ∈ Com := com_6 116 (by decide +kernel) (by decide +kernel)
set_option maxRecDepth 20000 in
theorem wd_1386 : Cond.instanceMethod yX11_maps ∈ Com := com_6 117 (by decide +kernel) (by decide +kernel)
set_option maxRecDepth 20000 in
theorem wd_1387 : Cond.selects "OnlyFarModel" yX11_maps yX11_maps ∈ Com := com_6 118 (by decide +kernel) (by decide +kernel)
set_option maxRecDepth 20000 in
theorem wd_1388 : Cond.code yX11_maps prog_13_method_79_code 4 (some .int) ∈ Com := com_6 119 (by decide +kernel) (by decide +kernel)
set_option maxRecDepth 20000 in
theorem wd_1389 : Cond.methodLink "OnlyFarModel" 289 yX11_layMaps ∈ Com := com_6 120 (by decide +kernel) (by decide +kernel)
set_option maxRecDepth 20000 in
theorem wd_1391 : Cond.instanceMethod yX11_layMaps ∈ Com := com_6 122 (by decide +kernel) (by decide +kernel)
set_option maxRecDepth 20000 in
theorem wd_1392 : Cond.code yX11_layMaps prog_13_method_78_code 6 (some .int) ∈ Com := com_6 123 (by decide +kernel) (by decide +kernel)
set_option maxRecDepth 20000 in
theorem wd_1393 : Cond.methodLink "OnlyFarModel" 286 yX11_isLike ∈ Com := com_6 124 (by decide +kernel) (by decide +kernel)
set_option maxRecDepth 20000 in
theorem wd_1395 : Cond.instanceMethod yX11_isLike ∈ Com := com_6 126 (by decide +kernel) (by decide +kernel)
set_option maxRecDepth 20000 in
theorem wd_1396 : Cond.code yX11_isLike prog_13_method_77_code 4 (some .boolean) ∈ Com := com_6 127 (by decide +kernel) (by decide +kernel)
set_option maxRecDepth 20000 in
theorem wd_1397 : Cond.methodLink "OnlyFarLaw" 143 yX11_part ∈ Com := com_6 128 (by decide +kernel) (by decide +kernel)
set_option maxRecDepth 20000 in
theorem wd_1398 : Cond.instanceMethod yX11_part ∈ Com := com_6 129 (by decide +kernel) (by decide +kernel)
set_option maxRecDepth 20000 in
theorem wd_1399 : Cond.selects "OnlyFarModel" yX11_part yX11_part ∈ Com := com_6 130 (by decide +kernel) (by decide +kernel)
set_option maxRecDepth 20000 in
theorem wd_1400 : Cond.code yX11_part prog_13_method_80_code 2 (some .int) ∈ Com := com_6 131 (by decide +kernel) (by decide +kernel)
set_option maxRecDepth 20000 in
theorem wd_1401 : Cond.constantLong "OnlyFarModel" 292 99 ∈ Com := com_6 132 (by decide +kernel) (by decide +kernel)
set_option maxRecDepth 20000 in
theorem wd_1402 : Cond.methodLink "OnlyFarLaw" 147 yX11_clear ∈ Com := com_6 133 (by decide +kernel) (by decide +kernel)
set_option maxRecDepth 20000 in
theorem wd_1403 : Cond.instanceMethod yX11_clear ∈ Com := com_6 134 (by decide +kernel) (by decide +kernel)
set_option maxRecDepth 20000 in
theorem wd_1404 : Cond.selects "OnlyFarModel" yX11_clear yX11_clear ∈ Com := com_6 135 (by decide +kernel) (by decide +kernel)
set_option maxRecDepth 20000 in
theorem wd_1405 : Cond.code yX11_clear prog_13_method_81_code 2 (some .int) ∈ Com := com_6 136 (by decide +kernel) (by decide +kernel)
set_option maxRecDepth 20000 in
theorem wd_1406 : Cond.methodLink "OnlyFarLaw" 151 yX11_road ∈ Com := com_6 137 (by decide +kernel) (by decide +kernel)
set_option maxRecDepth 20000 in
theorem wd_1407 : Cond.instanceMethod yX11_road ∈ Com := com_6 138 (by decide +kernel) (by decide +kernel)
set_option maxRecDepth 20000 in
theorem wd_1408 : Cond.selects "OnlyFarModel" yX11_road yX11_road ∈ Com := com_6 139 (by decide +kernel) (by decide +kernel)
set_option maxRecDepth 20000 in
theorem wd_1409 : Cond.code yX11_road prog_13_method_84_code 2 (some .int) ∈ Com := com_6 140 (by decide +kernel) (by decide +kernel)
set_option maxRecDepth 20000 in
theorem wd_1410 : Cond.methodLink "OnlyFarModel" 297 yX11_nearest ∈ Com := com_6 141 (by decide +kernel) (by decide +kernel)
set_option maxRecDepth 20000 in
theorem wd_1412 : Cond.instanceMethod yX11_nearest ∈ Com := com_6 143 (by decide +kernel) (by decide +kernel)
set_option maxRecDepth 20000 in
theorem wd_1413 : Cond.code yX11_nearest prog_13_method_82_code 3 (some .int) ∈ Com := com_6 144 (by decide +kernel) (by decide +kernel)
set_option maxRecDepth 20000 in
theorem wd_1414 : Cond.methodLink "OnlyFarModel" 294 yX11_farthest ∈ Com := com_6 145 (by decide +kernel) (by decide +kernel)
set_option maxRecDepth 20000 in
theorem wd_1416 : Cond.instanceMethod yX11_farthest ∈ Com := com_6 147 (by decide +kernel) (by decide +kernel)
set_option maxRecDepth 20000 in
theorem wd_1417 : Cond.code yX11_farthest prog_13_method_83_code 3 (some .int) ∈ Com := com_6 148 (by decide +kernel) (by decide +kernel)
set_option maxRecDepth 20000 in
theorem wd_1418 : Cond.methodLink "OnlyFarLaw" 155 yX11_reaches ∈ Com := com_6 149 (by decide +kernel) (by decide +kernel)
set_option maxRecDepth 20000 in
theorem wd_1419 : Cond.instanceMethod yX11_reaches ∈ Com := com_6 150 (by decide +kernel) (by decide +kernel)
set_option maxRecDepth 20000 in
theorem wd_1420 : Cond.selects "OnlyFarModel" yX11_reaches yX11_reaches ∈ Com := com_6 151 (by decide +kernel) (by decide +kernel)
set_option maxRecDepth 20000 in
theorem wd_1421 : Cond.code yX11_reaches prog_13_method_85_code 3 (some .int) ∈ Com := com_6 152 (by decide +kernel) (by decide +kernel)
set_option maxRecDepth 20000 in
theorem wd_1422 : Cond.methodLink "OnlyFarLaw" 159 yX11_keep ∈ Com := com_6 153 (by decide +kernel) (by decide +kernel)
set_option maxRecDepth 20000 in
theorem wd_1423 : Cond.instanceMethod yX11_keep ∈ Com := com_6 154 (by decide +kernel) (by decide +kernel)
set_option maxRecDepth 20000 in
theorem wd_1424 : Cond.selects "OnlyFarModel" yX11_keep yX11_keep ∈ Com := com_6 155 (by decide +kernel) (by decide +kernel)
set_option maxRecDepth 20000 in
theorem wd_1425 : Cond.code yX11_keep prog_13_method_87_code 3 (some .int) ∈ Com := com_6 156 (by decide +kernel) (by decide +kernel)
set_option maxRecDepth 20000 in
theorem wd_1426 : Cond.methodLink "OnlyFarLaw" 163 yX11_back ∈ Com := com_6 157 (by decide +kernel) (by decide +kernel)
set_option maxRecDepth 20000 in
theorem wd_1427 : Cond.instanceMethod yX11_back ∈ Com := com_6 158 (by decide +kernel) (by decide +kernel)
set_option maxRecDepth 20000 in
theorem wd_1428 : Cond.selects "OnlyFarModel" yX11_back yX11_back ∈ Com := com_6 159 (by decide +kernel) (by decide +kernel)
set_option maxRecDepth 20000 in
theorem wd_1429 : Cond.code yX11_back prog_13_method_88_code 3 (some .int) ∈ Com := com_6 160 (by decide +kernel) (by decide +kernel)
set_option maxRecDepth 20000 in
theorem wd_1430 : Cond.methodLink "OnlyFarModel" 300 yX11_lengthMany ∈ Com := com_6 161 (by decide +kernel) (by decide +kernel)
set_option maxRecDepth 20000 in
theorem wd_1432 : Cond.instanceMethod yX11_lengthMany ∈ Com := com_6 163 (by decide +kernel) (by decide +kernel)
set_option maxRecDepth 20000 in
theorem wd_1433 : Cond.code yX11_lengthMany prog_13_method_86_code 3 (some .int) ∈ Com := com_6 164 (by decide +kernel) (by decide +kernel)
set_option maxRecDepth 20000 in
theorem wd_1434 : Cond.methodLink "OnlyFarLaw" 167 yX11_sheet ∈ Com := com_6 165 (by decide +kernel) (by decide +kernel)
set_option maxRecDepth 20000 in
theorem wd_1435 : Cond.instanceMethod yX11_sheet ∈ Com := com_6 166 (by decide +kernel) (by decide +kernel)
set_option maxRecDepth 20000 in
theorem wd_1436 : Cond.selects "OnlyFarModel" yX11_sheet yX11_sheet ∈ Com := com_6 167 (by decide +kernel) (by decide +kernel)
set_option maxRecDepth 20000 in
theorem wd_1437 : Cond.code yX11_sheet prog_13_method_89_code 5 (some .int) ∈ Com := com_6 168 (by decide +kernel) (by decide +kernel)
set_option maxRecDepth 20000 in
theorem wd_1438 : Cond.methodLink "OnlyFarLaw" 171 yX11_lay ∈ Com := com_6 169 (by decide +kernel) (by decide +kernel)
set_option maxRecDepth 20000 in
theorem wd_1439 : Cond.instanceMethod yX11_lay ∈ Com := com_6 170 (by decide +kernel) (by decide +kernel)
set_option maxRecDepth 20000 in
theorem wd_1440 : Cond.selects "OnlyFarModel" yX11_lay yX11_lay ∈ Com := com_6 171 (by decide +kernel) (by decide +kernel)
set_option maxRecDepth 20000 in
theorem wd_1441 : Cond.code yX11_lay prog_13_method_90_code 4 (some .int) ∈ Com := com_6 172 (by decide +kernel) (by decide +kernel)
set_option maxRecDepth 20000 in
theorem wd_1442 : Cond.methodLink "OnlyFarLaw" 175 yX11_read ∈ Com := com_6 173 (by decide +kernel) (by decide +kernel)
set_option maxRecDepth 20000 in
theorem wd_1443 : Cond.instanceMethod yX11_read ∈ Com := com_6 174 (by decide +kernel) (by decide +kernel)
set_option maxRecDepth 20000 in
theorem wd_1444 : Cond.selects "OnlyFarModel" yX11_read yX11_read ∈ Com := com_6 175 (by decide +kernel) (by decide +kernel)
set_option maxRecDepth 20000 in
theorem wd_1445 : Cond.code yX11_read prog_13_method_91_code 10 (some .int) ∈ Com := com_6 176 (by decide +kernel) (by decide +kernel)
set_option maxRecDepth 20000 in
theorem wd_1446 : Cond.constantLong "OnlyFarModel" 303 13 ∈ Com := com_6 177 (by decide +kernel) (by decide +kernel)
set_option maxRecDepth 20000 in
theorem wd_1447 : Cond.methodLink "OnlyFarLaw" 179 yX11_torn ∈ Com := com_6 178 (by decide +kernel) (by decide +kernel)
set_option maxRecDepth 20000 in
theorem wd_1448 : Cond.instanceMethod yX11_torn ∈ Com := com_6 179 (by decide +kernel) (by decide +kernel)
set_option maxRecDepth 20000 in
theorem wd_1449 : Cond.selects "OnlyFarModel" yX11_torn yX11_torn ∈ Com := com_6 180 (by decide +kernel) (by decide +kernel)
set_option maxRecDepth 20000 in
theorem wd_1450 : Cond.code yX11_torn prog_13_method_92_code 1 (some .int) ∈ Com := com_6 181 (by decide +kernel) (by decide +kernel)
set_option maxRecDepth 20000 in
theorem wd_1451 : Cond.methodLink "OnlyFarLaw" 183 yX11_count ∈ Com := com_6 182 (by decide +kernel) (by decide +kernel)
set_option maxRecDepth 20000 in
theorem wd_1452 : Cond.instanceMethod yX11_count ∈ Com := com_6 183 (by decide +kernel) (by decide +kernel)
set_option maxRecDepth 20000 in
theorem wd_1453 : Cond.selects "OnlyFarModel" yX11_count yX11_count ∈ Com := com_6 184 (by decide +kernel) (by decide +kernel)
set_option maxRecDepth 20000 in
theorem wd_1454 : Cond.code yX11_count prog_13_method_93_code 2 (some .int) ∈ Com := com_6 185 (by decide +kernel) (by decide +kernel)
set_option maxRecDepth 20000 in
theorem wd_1455 : Cond.constantLong "OnlyFarLaw" 13 4294967295 ∈ Com := com_6 186 (by decide +kernel) (by decide +kernel)
set_option maxRecDepth 20000 in
theorem wd_1456 : Cond.fieldLink "java/lang/String" 9 "java/lang/String" "value" "[B" ∈ Com := com_6 187 (by decide +kernel) (by decide +kernel)
set_option maxRecDepth 20000 in
theorem wd_1457 : Cond.fieldLink "java/lang/String" 15 "java/lang/String" "coder" "B" ∈ Com := com_6 188 (by decide +kernel) (by decide +kernel)
theorem inC_X0 : ∀ w ∈ u_ws RX0 TX0 8, w ∈ Com := by
  intro w h
  obtain ⟨k, hk, rfl⟩ := List.mem_map.mp h
  rcases (show k = 0 ∨ k = 1 ∨ k = 2 ∨ k = 3 ∨ k = 4 ∨ k = 5 ∨ k = 6 ∨ k = 7 by have := List.mem_range.mp hk; omega) with rfl | rfl | rfl | rfl | rfl | rfl | rfl | rfl
  · exact wd_311
  · exact wd_313
  · exact wd_315
  · exact wd_317
  · exact wd_319
  · exact wd_321
  · exact wd_323
  · exact wd_325
theorem inC_X1 : ∀ w ∈ u_ws RX1 TX1 7, w ∈ Com := by
  intro w h
  obtain ⟨k, hk, rfl⟩ := List.mem_map.mp h
  rcases (show k = 0 ∨ k = 1 ∨ k = 2 ∨ k = 3 ∨ k = 4 ∨ k = 5 ∨ k = 6 by have := List.mem_range.mp hk; omega) with rfl | rfl | rfl | rfl | rfl | rfl | rfl
  · exact wd_255
  · exact wd_257
  · exact wd_259
  · exact wd_261
  · exact wd_263
  · exact wd_265
  · exact wd_267
theorem inC_X2 : ∀ w ∈ u_ws RX2 TX2 3, w ∈ Com := by
  intro w h
  obtain ⟨k, hk, rfl⟩ := List.mem_map.mp h
  rcases (show k = 0 ∨ k = 1 ∨ k = 2 by have := List.mem_range.mp hk; omega) with rfl | rfl | rfl
  · exact wd_212
  · exact wd_214
  · exact wd_216
theorem inC_X3 : ∀ w ∈ u_ws RX3 TX3 7, w ∈ Com := by
  intro w h
  obtain ⟨k, hk, rfl⟩ := List.mem_map.mp h
  rcases (show k = 0 ∨ k = 1 ∨ k = 2 ∨ k = 3 ∨ k = 4 ∨ k = 5 ∨ k = 6 by have := List.mem_range.mp hk; omega) with rfl | rfl | rfl | rfl | rfl | rfl | rfl
  · exact wd_342
  · exact wd_344
  · exact wd_346
  · exact wd_348
  · exact wd_350
  · exact wd_352
  · exact wd_354
theorem inC_X4 : ∀ w ∈ u_ws RX4 TX4 11, w ∈ Com := by
  intro w h
  obtain ⟨k, hk, rfl⟩ := List.mem_map.mp h
  rcases (show k = 0 ∨ k = 1 ∨ k = 2 ∨ k = 3 ∨ k = 4 ∨ k = 5 ∨ k = 6 ∨ k = 7 ∨ k = 8 ∨ k = 9 ∨ k = 10 by have := List.mem_range.mp hk; omega) with rfl | rfl | rfl | rfl | rfl | rfl | rfl | rfl | rfl | rfl | rfl
  · exact wd_156
  · exact wd_158
  · exact wd_160
  · exact wd_162
  · exact wd_164
  · exact wd_166
  · exact wd_168
  · exact wd_170
  · exact wd_172
  · exact wd_174
  · exact wd_176
theorem inC_X5 : ∀ w ∈ u_ws RX5 TX5 2, w ∈ Com := by
  intro w h
  obtain ⟨k, hk, rfl⟩ := List.mem_map.mp h
  rcases (show k = 0 ∨ k = 1 by have := List.mem_range.mp hk; omega) with rfl | rfl
  · exact wd_190
  · exact wd_192
theorem inC_X6 : ∀ w ∈ u_ws RX6 TX6 3, w ∈ Com := by
  intro w h
  obtain ⟨k, hk, rfl⟩ := List.mem_map.mp h
  rcases (show k = 0 ∨ k = 1 ∨ k = 2 by have := List.mem_range.mp hk; omega) with rfl | rfl | rfl
  · exact wd_231
  · exact wd_233
  · exact wd_235
theorem inC_X7 : ∀ w ∈ u_ws RX7 TX7 3, w ∈ Com := by
  intro w h
  obtain ⟨k, hk, rfl⟩ := List.mem_map.mp h
  rcases (show k = 0 ∨ k = 1 ∨ k = 2 by have := List.mem_range.mp hk; omega) with rfl | rfl | rfl
  · exact wd_285
  · exact wd_287
  · exact wd_289
theorem inC_X8 : ∀ w ∈ u_ws RX8 TX8 2, w ∈ Com := by
  intro w h
  obtain ⟨k, hk, rfl⟩ := List.mem_map.mp h
  rcases (show k = 0 ∨ k = 1 by have := List.mem_range.mp hk; omega) with rfl | rfl
  · exact wd_135
  · exact wd_137
theorem inC_X9 : ∀ w ∈ u_ws RX9 TX9 2, w ∈ Com := by
  intro w h
  obtain ⟨k, hk, rfl⟩ := List.mem_map.mp h
  rcases (show k = 0 ∨ k = 1 by have := List.mem_range.mp hk; omega) with rfl | rfl
  · exact wd_110
  · exact wd_112
theorem inC_X10 : ∀ w ∈ u_ws RX10 TX10 12, w ∈ Com := by
  intro w h
  obtain ⟨k, hk, rfl⟩ := List.mem_map.mp h
  rcases (show k = 0 ∨ k = 1 ∨ k = 2 ∨ k = 3 ∨ k = 4 ∨ k = 5 ∨ k = 6 ∨ k = 7 ∨ k = 8 ∨ k = 9 ∨ k = 10 ∨ k = 11 by have := List.mem_range.mp hk; omega) with rfl | rfl | rfl | rfl | rfl | rfl | rfl | rfl | rfl | rfl | rfl | rfl
  · exact wd_369
  · exact wd_371
  · exact wd_373
  · exact wd_375
  · exact wd_377
  · exact wd_379
  · exact wd_381
  · exact wd_383
  · exact wd_385
  · exact wd_387
  · exact wd_389
  · exact wd_391
theorem inC_X11 : ∀ w ∈ u_ws RX11 TX11 30, w ∈ Com := by
  intro w h
  obtain ⟨k, hk, rfl⟩ := List.mem_map.mp h
  rcases (show k = 0 ∨ k = 1 ∨ k = 2 ∨ k = 3 ∨ k = 4 ∨ k = 5 ∨ k = 6 ∨ k = 7 ∨ k = 8 ∨ k = 9 ∨ k = 10 ∨ k = 11 ∨ k = 12 ∨ k = 13 ∨ k = 14 ∨ k = 15 ∨ k = 16 ∨ k = 17 ∨ k = 18 ∨ k = 19 ∨ k = 20 ∨ k = 21 ∨ k = 22 ∨ k = 23 ∨ k = 24 ∨ k = 25 ∨ k = 26 ∨ k = 27 ∨ k = 28 ∨ k = 29 by have := List.mem_range.mp hk; omega) with rfl | rfl | rfl | rfl | rfl | rfl | rfl | rfl | rfl | rfl | rfl | rfl | rfl | rfl | rfl | rfl | rfl | rfl | rfl | rfl | rfl | rfl | rfl | rfl | rfl | rfl | rfl | rfl | rfl | rfl
  · exact wd_1020
  · exact wd_1022
  · exact wd_1024
  · exact wd_1026
  · exact wd_1028
  · exact wd_1030
  · exact wd_1032
  · exact wd_1034
  · exact wd_1036
  · exact wd_1038
  · exact wd_1040
  · exact wd_1042
  · exact wd_1044
  · exact wd_1046
  · exact wd_1048
  · exact wd_1050
  · exact wd_1052
  · exact wd_1054
  · exact wd_1056
  · exact wd_1058
  · exact wd_1060
  · exact wd_1062
  · exact wd_1064
  · exact wd_1066
  · exact wd_1068
  · exact wd_1070
  · exact wd_1072
  · exact wd_1074
  · exact wd_1076
  · exact wd_1078
